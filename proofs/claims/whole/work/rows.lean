section
-- A CONTROL, no part of a proof: a start that meets narrow_1 has the array class of Throwable's field among its classes (REPORT.md, TRANSLATOR 1)
theorem sx_l {a b : Jvm.Cond} {g : Array Jvm.Value} {s : Jvm.State} (h : (Jvm.Cond.and a b).before g s = true) : a.before g s = true := by
  rw [Jvm.Cond.before_and, Bool.and_eq_true] at h
  exact h.1

theorem sx_r {a b : Jvm.Cond} {g : Array Jvm.Value} {s : Jvm.State} (h : (Jvm.Cond.and a b).before g s = true) : b.before g s = true := by
  rw [Jvm.Cond.before_and, Bool.and_eq_true] at h
  exact h.2

theorem sx_int {g : Array Jvm.Value} {s : Jvm.State} (h : narrow_1.before g s = true) : (Jvm.Cond.not (Jvm.Cond.castable "[Ljava/lang/StackTraceElement;" "java/lang/Integer")).before g s = true :=
  sx_r (sx_r (sx_l (sx_r (sx_r (sx_r (sx_r (sx_l (sx_l (sx_l h)))))))))

theorem sx_str {g : Array Jvm.Value} {s : Jvm.State} (h : narrow_1.before g s = true) : (Jvm.Cond.not (Jvm.Cond.castable "[Ljava/lang/StackTraceElement;" "java/lang/String")).before g s = true :=
  sx_l (sx_l (sx_r (sx_l (sx_l (sx_l (sx_r (sx_l (sx_l h))))))))

theorem sx_needs {g : Array Jvm.Value} {s : Jvm.State} (h : narrow_1.before g s = true) : (s.vm.findClass "[Ljava/lang/StackTraceElement;").isSome = true := by
  have h2 := sx_int h
  simp only [Jvm.Cond.before, Jvm.Cond.holds, Jvm.Cond.value] at h2
  cases hc : s.vm.findClass "[Ljava/lang/StackTraceElement;" with
  | none => simp [hc] at h2
  | some c => rfl

theorem sx_falls {g : Array Jvm.Value} {s : Jvm.State} (h : s.vm.findClass "[Ljava/lang/StackTraceElement;" = none) : (Jvm.Cond.and given_1 narrow_1).before g s = false := by
  cases hb : (Jvm.Cond.and given_1 narrow_1).before g s with
  | false => rfl
  | true =>
    have h2 := sx_needs (sx_r hb)
    rw [h] at h2
    exact absurd h2 (by decide)
end
