/-! laid together -/
theorem lv_stop {we : Nat → Option Nat} {i : Nat} (h : we i = none) : ∀ k, lvN we k i = i := by
  intro k
  cases k with
  | zero => rfl
  | succ k => rw [lvN, h]
theorem lv_rank {we : Nat → Option Nat} {rk : Nat → Nat} {n : Nat} (hw : ∀ i, i < n → ∀ j, we i = some j → j < n ∧ rk j < rk i) : ∀ k i, i < n → rk i ≤ k → we (lvN we k i) = none ∧ ∀ k', rk i ≤ k' → lvN we k' i = lvN we k i := by
  intro k
  induction k with
  | zero =>
    intro i hi hr
    have h0 : we i = none := by
      cases h : we i with
      | none => rfl
      | some j => have := (hw i hi j h).2; omega
    exact ⟨h0, fun k' _ => lv_stop h0 k'⟩
  | succ k ih =>
    intro i hi hr
    cases h : we i with
    | none =>
      rw [lv_stop h]
      exact ⟨h, fun k' _ => lv_stop h k'⟩
    | some j =>
      obtain ⟨h1, h2⟩ := hw i hi j h
      obtain ⟨g1, g2⟩ := ih j h1 (by omega)
      have e : lvN we (k + 1) i = lvN we k j := by rw [lvN, h]
      rw [e]
      refine ⟨g1, fun k' hk' => ?_⟩
      cases k' with
      | zero => omega
      | succ k' =>
        rw [lvN, h]
        exact g2 k' (by omega)
theorem live_rank {t : Nat} {S : St} (D : Dt t S) : ∃ rk : Nat → Nat, (∀ i, i < nRc S → rk i + cn (liveB S) 20 ≤ nRc S ∧ ∀ j, rcWe (rcs S i) = some j → rk j < rk i) ∧ (∀ i, rcWe (rcs S i) = none → rk i = 0) ∧ ∀ i, i < nRc S → rcWe (rcs S (live S i)) = none ∧ ∀ j, rcWe (rcs S i) = some j → live S i = live S j := by
  obtain ⟨d8, rk, d9⟩ := D.2.2.2.2.2.2.2
  have hb := D.1.2.1
  have hw : ∀ i, i < nRc S → ∀ j, weS S i = some j → j < nRc S ∧ rk j < rk i := fun i hi j hj => ⟨(D.1.2.2.2.2.1 i hi).2 j hj, (d9 i hi).2 j hj⟩
  refine ⟨fun i => if rcWe (rcs S i) = none then 0 else rk i, fun i hi => ⟨?_, fun j hj => ?_⟩, fun i hi => by simp [hi], fun i hi => ?_⟩
  · have := (d9 i hi).1
    show (if rcWe (rcs S i) = none then 0 else rk i) + _ ≤ _
    split <;> omega
  · have := (d9 i hi).2 j hj
    show (if rcWe (rcs S j) = none then 0 else rk j) < (if rcWe (rcs S i) = none then 0 else rk i)
    rw [if_neg (show ¬ rcWe (rcs S i) = none by rw [hj]; simp)]
    split <;> omega
  · have h1 := (d9 i hi).1
    obtain ⟨g1, g2⟩ := lv_rank hw 20 i hi (by omega)
    refine ⟨g1, fun j hj => ?_⟩
    obtain ⟨h2, h3⟩ := hw i hi j hj
    obtain ⟨g3, g4⟩ := lv_rank hw 20 j h2 (by omega)
    have e : live S i = lvN (weS S) 19 j := by
      show lvN (weS S) 20 i = _
      rw [lvN, show weS S i = some j from hj]
    rw [e]
    exact g4 19 (by omega)
theorem wf_mvw {S : St} (W : Wf S) {a b : Nat} (ha : a < nRc S) (hb : b < nRc S) : Wf (mvwS S a b) := by
  have key : ∀ (l : List Nat) (T : St), Wf T → nRd T = nRd S → nRc T = nRc S → (∀ x ∈ l, x < nRd S) → Wf (l.foldl (mvwStep b) T) := by
    intro l
    induction l with
    | nil => intro T WT _ _ _; exact WT
    | cons x l ih =>
      intro T WT h1 h2 hl
      have s := same5_mvwStep (T := T) (b := b) (x := x)
      have e1 : nRd (mvwStep b T x) = nRd T := congrArg (fun z => z.2.2.2.1) s.2.1
      exact ih _ (wf_mvwStep WT (by rw [h2]; exact hb) (by rw [h1]; exact hl x List.mem_cons_self)) (e1.trans h1) ((nRc_same s).trans h2) (fun y hy => hl y (List.mem_cons_of_mem _ hy))
  exact wf_ln (key (lin S a) S W rfl rfl (W_lin W ha).2) (Nat.zero_le _) (fun x hx => by cases hx) List.nodup_nil
/-- while copies are freed, one by one -/
def LJ (t : Nat) (S T : St) : Prop := Dt t T ∧ nCp T = nCp S ∧ rcs T = rcs S ∧ rds T = rds S ∧ lin T = lin S ∧ tdy T = tdy S ∧ ∀ c, c < nCp S → cpRc (cps T c) = cpRc (cps S c) ∧ Sh 0 T c ∧ (cpPl (cps T c) = 1 → cps T c = cps S c)
theorem lj_free {t : Nat} {S T : St} {c : Nat} {d : Cp} (ht : t ≤ 61) (J : LJ t S T) (hc : c < nCp T) (hd : freeS T c = setCp T c d) (ho : FreeOut T c d) : LJ t S (setCp T c d) := by
  obtain ⟨D, j1, j2, j3, j4, j5, j6⟩ := J
  have D2 := dt_free D hc
  rw [hd] at D2
  refine ⟨D2, j1, j2, j3, j4, j5, fun c' hc' => ?_⟩
  obtain ⟨g1, g2, g3⟩ := j6 c' hc'
  rw [rc_set ho.rc]
  by_cases hcc : c' = c
  · subst hcc
    refine ⟨g1, sh_free D ht hc ho (sh_pr g2), fun z => ?_⟩
    rw [cp_eq] at z
    rcases ho.pl with y | y <;> rw [y] at z <;> cases z
  · refine ⟨g1, (sh_set hcc).mpr g2, fun z => ?_⟩
    rw [cp_ne hcc] at z ⊢
    exact g3 z
/-- the wrongly aside are freed -/
def WrJ (t : Nat) (S : St) (k : Nat) (T : St) : Prop := LJ t S T ∧ ∀ c, c < nCp S → c < k → ∀ x, As T c x (cpRc (cps T c)) → x ∈ lin T (cpRc (cps T c)) ∧ ∀ c', c' < c → ¬ As T c' x (cpRc (cps T c))
theorem wr_step {t : Nat} {S T : St} {k : Nat} (ht : t ≤ 61) (J : WrJ t S k T) : WrJ t S (k + 1) (wrStep T k) := by
  obtain ⟨J, h⟩ := J
  have hn : nCp T = nCp S := J.2.1
  unfold wrStep
  by_cases hk : k < nCp T ∧ cpPl (cps T k) = 2 ∧ rightB T k = false
  · rw [if_pos hk]
    obtain ⟨d, hd, ho⟩ := free_rel J.1.n k
    rw [hd]
    refine ⟨lj_free ht J hk.1 hd ho, fun c hc hck x ha => ?_⟩
    rw [rc_set ho.rc] at ha ⊢
    by_cases hcc : c = k
    · subst hcc
      obtain ⟨a1, a2, -⟩ := as_eq.mp ha
      rcases ho with ⟨rfl, -⟩ | ⟨y, rfl, h1, h2⟩
      · cases a1
      · cases a2
        exact ⟨h1, fun c' hlt hac => h2 c' (by omega) (by omega) ((as_ne (by omega)).mp hac)⟩
    · obtain ⟨b1, b2⟩ := h c hc (by omega) x ((as_ne hcc).mp ha)
      exact ⟨b1, fun c' hlt hac => b2 c' hlt ((as_ne (by omega)).mp hac)⟩
  · rw [if_neg hk]
    refine ⟨J, fun c hc hck x ha => ?_⟩
    by_cases hcc : c = k
    · subst hcc
      have hr : rightB T c = true := by
        cases hb : rightB T c with
        | true => rfl
        | false => exact absurd ⟨by rw [hn]; exact hc, ha.1, hb⟩ hk
      unfold rightB at hr
      rw [Bool.and_eq_true, decide_eq_true_eq, ha.2.1] at hr
      obtain ⟨r1, r2⟩ := hr
      obtain ⟨-, -, -, r3⟩ := fN_spec r2
      refine ⟨by simpa [holdsB] using r1, fun c' hlt hac => ?_⟩
      have := r3 c' (Nat.zero_le _) hlt
      rw [asB_iff.mpr ⟨by omega, hac⟩] at this
      cases this
    · exact h c hc (by omega) x ha
/-- those that stand are freed -/
def InJ (t : Nat) (S : St) (k : Nat) (T : St) : Prop := LJ t S T ∧ (∀ c, c < nCp S → Ri T c) ∧ ∀ c, c < nCp S → c < k → Fr T c
theorem in_step {t : Nat} {S T : St} {k : Nat} (ht : t ≤ 61) (J : InJ t S k T) : InJ t S (k + 1) (inStep T k) := by
  obtain ⟨J, hR, hF⟩ := J
  have hn : nCp T = nCp S := J.2.1
  unfold inStep
  by_cases hk : k < nCp T ∧ cpPl (cps T k) = 0
  · rw [if_pos hk]
    obtain ⟨d, hd, ho⟩ := free_rel J.1.n k
    rw [hd]
    refine ⟨lj_free ht J hk.1 hd ho, fun c hc => free_ri hk.1 ho (fun c' hc' _ => hR c' (by rw [← hn]; exact hc')) c (by rw [hn]; exact hc), fun c hc hck => ?_⟩
    refine free_fr hk.1 ho (fun x hx ha => ?_) (fun hne => hF c hc (by omega))
    have := ha.1
    rw [hk.2] at this
    cases this
  · rw [if_neg hk]
    refine ⟨J, hR, fun c hc hck => ?_⟩
    by_cases hcc : c = k
    · subst hcc
      intro hp
      exact absurd ⟨by rw [hn]; exact hc, hp⟩ hk
    · exact hF c hc (by omega)
theorem lay_end {t : Nat} {S : St} (ht : t ≤ 61) (D : Dt t S) (C : Cs 0 S) : Inv t (inS (wrS S)) ∧ rcs (inS (wrS S)) = rcs S ∧ nCp (inS (wrS S)) = nCp S ∧ tdy (inS (wrS S)) = tdy S := by
  have hn := D.n
  have J0 : WrJ t S 0 S := ⟨⟨D, rfl, rfl, rfl, rfl, rfl, fun c hc => ⟨rfl, (C.1 c hc).2, fun _ => rfl⟩⟩, fun c _ h => absurd h (Nat.not_lt_zero _)⟩
  have J : ∀ k, WrJ t S k (itN wrStep k S) := by
    intro k
    induction k with
    | zero => exact J0
    | succ k ih => rw [itN]; exact wr_step ht ih
  have J1 := J 30
  have e1 : itN wrStep 30 S = wrS S := rfl
  rw [e1] at J1
  have ei : inS (wrS S) = itN inStep 30 (wrS S) := rfl
  rw [ei]
  generalize wrS S = T at *
  obtain ⟨L1, h1⟩ := J1
  have hTn : nCp T = nCp S := L1.2.1
  have K0 : InJ t S 0 T := by
    refine ⟨L1, fun c hc x ha => ?_, fun c _ h => absurd h (Nat.not_lt_zero _)⟩
    obtain ⟨b1, b2⟩ := h1 c hc (by omega) x ha
    refine ⟨b1, fun c' hc' ha' => ?_⟩
    rw [hTn] at hc'
    have hrr : cpRc (cps T c') = cpRc (cps T c) := ha'.2.2
    obtain ⟨b3, b4⟩ := h1 c' hc' (by omega) x (by rw [hrr]; exact ha')
    by_cases hlt : c' < c
    · exact absurd ha' (b2 c' hlt)
    · by_cases hgt : c < c'
      · exact absurd (by rw [hrr]; exact ha) (b4 c hgt)
      · omega
  have K : ∀ k, InJ t S k (itN inStep k T) := by
    intro k
    induction k with
    | zero => exact K0
    | succ k ih => rw [itN]; exact in_step ht ih
  have K1 := K 30
  generalize itN inStep 30 T = U at *
  obtain ⟨⟨D2, j1, j2, j3, j4, j5, j6⟩, hR, hF⟩ := K1
  refine ⟨⟨D2, ⟨fun c hc => ?_, fun x hx => ?_⟩, fun c hc => ?_⟩, j2, j1, j5⟩
  · rw [j1] at hc
    rw [j2, (j6 c hc).1]
    exact ⟨(C.1 c hc).1, (j6 c hc).2.1⟩
  · have : lentN U x ≤ lentN S x := by
      refine cn_mono (fun c h => ?_) 30
      simp only [ofB, decide_eq_true_eq] at h ⊢
      obtain ⟨b1, b2, b3⟩ := h
      rw [j1] at b1
      have e := (j6 c b1).2.2 b2
      rw [e] at b2 b3
      exact ⟨b1, b2, b3⟩
    have h2 := C.2 x hx
    rw [j3]
    omega
  · rw [j1] at hc
    exact ⟨hR c hc, hF c hc (by omega)⟩
