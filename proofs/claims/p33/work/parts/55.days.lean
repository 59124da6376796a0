/-! days pass -/
theorem lost_pl {pl dy d : Int32} (h : lostP pl dy d) : pl = 1 := by
  apply Classical.byContradiction
  intro hp
  apply h
  unfold lateN
  rw [if_neg (fun z => hp z.1)]
  decide
theorem lost_iff {dy d : Int32} (h1 : 0 ≤ dy.toInt) (h2 : 0 ≤ d.toInt) : lostP 1 dy d ↔ dy.toInt + 30 ≤ d.toInt := by
  have h30 : (30 : Int32).toInt = 30 := by decide
  have h0 : (0 : Int32).toInt = 0 := by decide
  unfold lostP lateN
  by_cases hl : dy < d
  · rw [if_pos ⟨rfl, hl⟩, Int32.lt_iff_toInt_lt]
    rw [Int32.lt_iff_toInt_lt] at hl
    rw [i_sub h1 (by omega), h30]
    omega
  · rw [if_neg (fun z => hl z.2), Int32.lt_iff_toInt_lt, h30, h0]
    rw [Int32.lt_iff_toInt_lt] at hl
    omega
/-- how copy c of S is in T, when a copy lent till before d - 30 is lost -/
def Tr (d : Int32) (S T : St) (c : Nat) : Prop :=
  (cpPl (cps S c) = 1 → (lostP (cpPl (cps S c)) (cpDy (cps S c)) d → cpPl (cps T c) = 3) ∧ (¬ lostP (cpPl (cps S c)) (cpDy (cps S c)) d → cps T c = cps S c)) ∧
  (cpPl (cps S c) = 3 → cpPl (cps T c) = 3) ∧ (cpPl (cps S c) = 0 ∨ cpPl (cps S c) = 2 → cpPl (cps T c) = 0 ∨ cpPl (cps T c) = 2)
theorem Tr.lent {d : Int32} {S T : St} {c : Nat} {e : Int} (h : Tr d S T c) (hs : Sh e S c) (hp : cpPl (cps T c) = 1) : cps T c = cps S c := by
  obtain ⟨h1, h2, h3⟩ := h
  obtain ⟨-, ⟨a, -⟩ | ⟨a, -⟩ | ⟨a, -⟩ | ⟨a, -⟩⟩ := hs
  · rcases h3 (Or.inl a) with z | z <;> rw [z] at hp <;> cases hp
  · by_cases hl : lostP (cpPl (cps S c)) (cpDy (cps S c)) d
    · rw [(h1 a).1 hl] at hp; cases hp
    · exact (h1 a).2 hl
  · rcases h3 (Or.inr a) with z | z <;> rw [z] at hp <;> cases hp
  · rw [h2 a] at hp; cases hp
def Ow (b : Int) (S : St) : Prop := ∀ x, x < 4 → (rdOw (rds S x)).toInt ≤ b
/-- after k copies of a day -/
def DayJ (t : Nat) (b : Int) (S : St) (k : Nat) (p : St × Nat) : Prop :=
  Dt (t + 1) p.1 ∧ Ow (b + 240 * k) p.1 ∧ nCp p.1 = nCp S ∧ rcs p.1 = rcs S ∧ tdy p.1 = tdy S + 1 ∧ (∀ x, rdKi (rds p.1 x) = rdKi (rds S x)) ∧
  (∀ c, c < nCp S → cpRc (cps p.1 c) = cpRc (cps S c) ∧ (k ≤ c → cps p.1 c = cps S c) ∧ (c < k → Sh 0 p.1 c ∧ Tr (tdy S + 1) S p.1 c)) ∧
  (∀ c, c < nCp S → Ri p.1 c ∧ Fr p.1 c) ∧ p.2 = cn (lostB S 1) k
theorem day_step {t : Nat} {b : Int} {S : St} (ht : t < 60) (hs : ∀ c, c < nCp S → Sh 0 S c) (hn : nCp S ≤ 30) (ht0 : 0 ≤ (tdy S).toInt) (ht1 : (tdy S + 1).toInt = (tdy S).toInt + 1) (hb : b + 7200 ≤ 200000 * ((t : Int) + 1)) {k : Nat} (hk : k < 30) {p : St × Nat} (J : DayJ t b S k p) : DayJ t b S (k + 1) (dayStep p k) := by
  obtain ⟨T, n⟩ := p
  obtain ⟨D, O, j1, j2, j3, j4, j5, j6, j7⟩ := J
  dsimp only at D O j1 j2 j3 j4 j5 j6 j7
  have O' : Ow (b + 240 * (k + 1 : Nat)) T := fun x hx => by have := O x hx; omega
  by_cases hkn : k < nCp S
  · have hkT : k < nCp T := by rw [j1]; exact hkn
    have ek := (j5 k hkn).2.1 (Nat.le_refl k)
    have hsk := hs k hkn
    -- shape of k now, one day later
    have hs1 : Sh 1 T k := by
      unfold Sh at hsk ⊢
      rw [ek, j3, ht1]
      obtain ⟨g1, g2 | ⟨a1, a2, a3, a4, a5, a6⟩ | ⟨a1, a2, a3, a5, a6⟩ | g2⟩ := hsk
      · exact ⟨g1, Or.inl g2⟩
      · exact ⟨g1, Or.inr (Or.inl ⟨a1, a2, a3, by omega, by omega, a6⟩)⟩
      · exact ⟨g1, Or.inr (Or.inr (Or.inl ⟨a1, a2, by omega, by omega, a6⟩))⟩
      · exact ⟨g1, Or.inr (Or.inr (Or.inr g2))⟩
    have hpr : ∀ c, c < nCp T → ∃ q, 1 ≤ q ∧ q ≤ 200 ∧ cpPr (cps T c) = nI q := by
      intro c hc
      rw [j1] at hc
      by_cases hck : c < k
      · exact sh_pr ((j5 c hc).2.2 hck).1
      · rw [(j5 c hc).2.1 (by omega)]
        exact sh_pr (hs c hc)
    by_cases hA : cpPl (cps T k) = 2 ∧ cpDy (cps T k) < tdy T
    · -- the aside copy's time is over
      obtain ⟨x, hx⟩ : ∃ x, cpRd (cps T k) = some x := by
        obtain ⟨-, ⟨a, -⟩ | ⟨a, -⟩ | ⟨-, ⟨x, -, h⟩, -⟩ | ⟨a, -⟩⟩ := hs1
        · rw [hA.1] at a; cases a
        · rw [hA.1] at a; cases a
        · exact ⟨x, h⟩
        · rw [hA.1] at a; cases a
      have est : dayStep (T, n) k = (endS T x (cpRc (cps T k)), n) := by
        unfold dayStep
        rw [if_pos hkT, if_pos hA]
        show (endS T ((cpRd (cps T k)).getD 0) (cpRc (cps T k)), n) = _
        rw [hx]
        rfl
      have hak : As T k x (cpRc (cps T k)) := ⟨hA.1, hx, rfl⟩
      have hrk := W_rec D.w hkT
      obtain ⟨D2, h1, h2, h3, h4, h5, h6, h7⟩ := end_inv (x := x) (r := cpRc (cps T k)) (by omega) D hrk hpr (fun c hc => (j6 c (by rw [← j1]; exact hc)).1) (fun c hc hp y hy _ => (j6 c (by rw [← j1]; exact hc)).2 hp y hy)
      have huk : ∀ c, c < nCp T → As T c x (cpRc (cps T k)) → c = k := fun c hc ha => ((j6 k hkn).1 x hak).2 c hc ha
      rw [est]
      generalize endS T x (cpRc (cps T k)) = U at *
      have hother : ∀ c, c < nCp S → c ≠ k → cps U c = cps T c := fun c hc hne => by
        rcases h7 c (by rw [j1]; exact hc) with e | ⟨a1, -⟩
        · exact e
        · exact absurd (huk c (by rw [j1]; exact hc) a1) hne
      have hkk : Sh 0 U k ∧ (cpPl (cps U k) = 0 ∨ cpPl (cps U k) = 2) ∧ cpRc (cps U k) = cpRc (cps T k) := by
        rcases h7 k hkT with e | ⟨-, a2, a3, a4⟩
        · exfalso
          have hau : As U k x (cpRc (cps U k)) := by
            unfold As
            rw [e]
            exact ⟨hA.1, hx, rfl⟩
          have := ((h1 k hkT).1 x hau).1
          rw [h6, e] at this
          rcases (mem_drop.mp this).2 with z | z
          · exact z rfl
          · exact z rfl
        · exact ⟨a2, a3, a4⟩
      refine ⟨D2, fun y hy => by rw [h4]; exact O' y hy, by rw [h2]; exact j1, by rw [h3]; exact j2, by rw [h5]; exact j3, fun y => by rw [h4]; exact j4 y, fun c hc => ?_, fun c hc => h1 c (by rw [j1]; exact hc), ?_⟩
      · by_cases hck : c = k
        · subst hck
          refine ⟨hkk.2.2.trans (j5 c hc).1, fun z => by omega, fun _ => ⟨hkk.1, ?_⟩⟩
          have hpl2 : cpPl (cps S c) = 2 := by rw [← ek]; exact hA.1
          exact ⟨(fun z => by rw [hpl2] at z; cases z), (fun z => by rw [hpl2] at z; cases z), fun _ => hkk.2.1⟩
        · have e := hother c hc hck
          obtain ⟨g1, g2, g3⟩ := j5 c hc
          refine ⟨by rw [e]; exact g1, fun z => by rw [e]; exact g2 (by omega), fun z => ?_⟩
          obtain ⟨g4, g5⟩ := g3 (by omega)
          refine ⟨?_, ?_⟩
          · unfold Sh at g4 ⊢
            rw [e, h5]
            exact g4
          · unfold Tr at g5 ⊢
            rw [e]
            exact g5
      · show n = cn (lostB S 1) (k + 1)
        have : lostB S 1 k = false := by
          cases hl : lostB S 1 k with
          | false => rfl
          | true =>
            simp only [lostB, decide_eq_true_eq] at hl
            have := lost_pl hl.2
            rw [← ek, hA.1] at this
            cases this
        rw [cn_f this]
        exact j7
    · by_cases hL : lostP (cpPl (cps T k)) (cpDy (cps T k)) (tdy T)
      · -- lost
        have hp := lost_pl hL
        obtain ⟨x, hx4, hx⟩ : ∃ x, x < 4 ∧ cpRd (cps T k) = some x := by
          obtain ⟨-, ⟨a, -⟩ | ⟨-, ⟨x, h8, h9⟩, -⟩ | ⟨a, -⟩ | ⟨a, -⟩⟩ := hs1
          · rw [hp] at a; cases a
          · exact ⟨x, h8, h9⟩
          · rw [hp] at a; cases a
          · rw [hp] at a; cases a
        obtain ⟨q, q1, q2, q3⟩ := hpr k hkT
        have est : dayStep (T, n) k = (setCp (oweS T x (rdOw (rds T x) + (cpPr (cps T k) + 40))) k (lostC (cps T k)), n + 1) := by
          unfold dayStep
          rw [if_pos hkT, if_neg hA, if_pos hL]
          show (loseS T k, n + 1) = _
          unfold loseS
          rw [hx]
        have hob := ow_b D hx4
        have hox := O x hx4
        have e40 : (cpPr (cps T k) + 40).toInt = q + 40 := by
          rw [q3, show (40 : Int32) = nI 40 from rfl, nI_add, nI_toInt (by omega)]
          omega
        have eo : (rdOw (rds T x) + (cpPr (cps T k) + 40)).toInt = (rdOw (rds T x)).toInt + (q + 40) := by
          rw [i_add hob.1 (by rw [e40]; omega) (by rw [e40]; omega), e40]
        have D2 : Dt (t + 1) (oweS T x (rdOw (rds T x) + (cpPr (cps T k) + 40))) := dt_rd D (by rw [eo]; omega) (by rw [eo]; omega)
        have W3 : Wf (setCp (oweS T x (rdOw (rds T x) + (cpPr (cps T k) + 40))) k (lostC (cps T k))) := wf_cp (S := oweS T x (rdOw (rds T x) + (cpPr (cps T k) + 40))) D2.w (W_rec D.w hkT) (W_rdr D.w hkT) (fun z => by cases z)
        have D3 : Dt (t + 1) (setCp (oweS T x (rdOw (rds T x) + (cpPr (cps T k) + 40))) k (lostC (cps T k))) := dt_cp D2 W3
        have rf := set_rf (S := oweS T x (rdOw (rds T x) + (cpPr (cps T k) + 40))) (c := k) (d := lostC (cps T k)) (show cpPl (cps T k) ≠ 2 by rw [hp]; decide) (show (3 : Int32) ≠ 2 by decide) (show (3 : Int32) ≠ 0 by decide) rfl (fun c hc => j6 c (by rw [← j1]; exact hc))
        have hrc : ∀ c, cpRc (cps (setCp (oweS T x (rdOw (rds T x) + (cpPr (cps T k) + 40))) k (lostC (cps T k))) c) = cpRc (cps T c) := fun c => rc_set (S := oweS T x (rdOw (rds T x) + (cpPr (cps T k) + 40))) (d := lostC (cps T k)) rfl c
        have hk0 : cps (setCp (oweS T x (rdOw (rds T x) + (cpPr (cps T k) + 40))) k (lostC (cps T k))) k = lostC (cps T k) := up_eq
        have hk1 : ∀ c, c ≠ k → cps (setCp (oweS T x (rdOw (rds T x) + (cpPr (cps T k) + 40))) k (lostC (cps T k))) c = cps T c := fun c h => up_ne h
        have hki : ∀ y, rdKi (rds (setCp (oweS T x (rdOw (rds T x) + (cpPr (cps T k) + 40))) k (lostC (cps T k))) y) = rdKi (rds T y) := fun y => ki_rd y
        have how : ∀ y, y < 4 → (rdOw (rds (setCp (oweS T x (rdOw (rds T x) + (cpPr (cps T k) + 40))) k (lostC (cps T k))) y)).toInt ≤ b + 240 * (k + 1 : Nat) := fun y hy => by
          show (rdOw (va_up (rds T) x (rdKi (rds T x), rdOw (rds T x) + (cpPr (cps T k) + 40)) y)).toInt ≤ _
          by_cases h : y = x
          · rw [h, up_eq]
            show (rdOw (rds T x) + (cpPr (cps T k) + 40)).toInt ≤ _
            rw [eo]; omega
          · rw [up_ne h]; exact O' y hy
        rw [est]
        have htd : tdy (setCp (oweS T x (rdOw (rds T x) + (cpPr (cps T k) + 40))) k (lostC (cps T k))) = tdy T := rfl
        refine ⟨D3, how, j1, j2, j3, fun y => (hki y).trans (j4 y), fun c hc => ?_, fun c hc => rf c (by show c < nCp T; rw [j1]; exact hc), ?_⟩
        · dsimp only
          rw [hrc]
          obtain ⟨g1, g2, g3⟩ := j5 c hc
          by_cases hck : c = k
          · subst hck
            refine ⟨g1, fun z => by omega, fun _ => ⟨?_, ?_⟩⟩
            · unfold Sh
              rw [hk0]
              exact ⟨⟨q, q1, q2, q3⟩, Or.inr (Or.inr (Or.inr ⟨rfl, ⟨x, hx4, hx⟩, rfl, rfl⟩))⟩
            · unfold Tr
              rw [hk0, ← ek, ← j3]
              exact ⟨fun _ => ⟨fun _ => rfl, fun z => absurd hL z⟩, fun _ => rfl, fun z => by rw [hp] at z; rcases z with z | z <;> cases z⟩
          · refine ⟨g1, fun z => by rw [hk1 c hck]; exact g2 (by omega), fun z => ?_⟩
            obtain ⟨g4, g5⟩ := g3 (by omega)
            refine ⟨?_, ?_⟩
            · unfold Sh at g4 ⊢
              rw [hk1 c hck]
              exact g4
            · unfold Tr at g5 ⊢
              rw [hk1 c hck]
              exact g5
        · show n + 1 = cn (lostB S 1) (k + 1)
          have : lostB S 1 k = true := by
            simp only [lostB, decide_eq_true_eq]
            rw [← ek, ← j3]
            exact ⟨hkn, hL⟩
          rw [cn_t this, ← j7]
      · -- nothing
        have est : dayStep (T, n) k = (T, n) := by
          unfold dayStep
          rw [if_pos hkT, if_neg hA, if_neg hL]
        rw [est]
        refine ⟨D, O', j1, j2, j3, j4, fun c hc => ?_, j6, ?_⟩
        · obtain ⟨g1, g2, g3⟩ := j5 c hc
          by_cases hck : c = k
          · subst hck
            refine ⟨g1, fun z => by omega, fun _ => ⟨?_, ?_⟩⟩
            · obtain ⟨g4, g5 | ⟨a1, a2, a3, a4, a5⟩ | ⟨a1, a2, a3, a5⟩ | g5⟩ := hs1
              · exact ⟨g4, Or.inl g5⟩
              · refine ⟨g4, Or.inr (Or.inl ⟨a1, a2, a3, ?_, a5⟩)⟩
                rw [a1, lost_iff a3 (by have := td_b D (by omega); omega)] at hL
                show (tdy T).toInt ≤ (cpDy (cps T c)).toInt + 29 + 0
                omega
              · refine ⟨g4, Or.inr (Or.inr (Or.inl ⟨a1, a2, ?_, a5⟩))⟩
                have h8 : ¬ cpDy (cps T c) < tdy T := fun z => hA ⟨a1, z⟩
                rw [Int32.lt_iff_toInt_lt] at h8
                show (tdy T).toInt ≤ (cpDy (cps T c)).toInt + 0
                omega
              · exact ⟨g4, Or.inr (Or.inr (Or.inr g5))⟩
            · unfold Tr
              dsimp only
              rw [ek]
              rw [ek, j3] at hL
              exact ⟨fun _ => ⟨fun z => absurd z hL, fun _ => rfl⟩, fun z => z, fun z => z⟩
          · exact ⟨g1, fun z => g2 (by omega), fun z => g3 (by omega)⟩
        · show n = cn (lostB S 1) (k + 1)
          have : lostB S 1 k = false := by
            cases hl : lostB S 1 k with
            | false => rfl
            | true =>
              simp only [lostB, decide_eq_true_eq] at hl
              rw [← ek, ← j3] at hl
              exact absurd hl.2 hL
          rw [cn_f this]
          exact j7
  · have est : dayStep (T, n) k = (T, n) := by
      unfold dayStep
      rw [if_neg (by rw [j1]; exact hkn)]
    rw [est]
    refine ⟨D, O', j1, j2, j3, j4, fun c hc => ?_, j6, ?_⟩
    · obtain ⟨g1, g2, g3⟩ := j5 c hc
      exact ⟨g1, fun z => by omega, fun _ => g3 (by omega)⟩
    · show n = cn (lostB S 1) (k + 1)
      rw [cn_f (by simp [lostB, hkn])]
      exact j7
