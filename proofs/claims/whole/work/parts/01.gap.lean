-- What stands here: of every start that meets the narrowing premises, the class table holds the array class that REPORT.md (STATEMENT 1, 3) names. The printed witness's table has no class of that name.
theorem st_l {a b : Jvm.Cond} {args : Array Jvm.Value} {s : Jvm.State} (h : (Jvm.Cond.and a b).before args s = true) : a.before args s = true := by
  simp only [Jvm.Cond.before_and, Bool.and_eq_true] at h
  exact h.1
theorem st_r {a b : Jvm.Cond} {args : Array Jvm.Value} {s : Jvm.State} (h : (Jvm.Cond.and a b).before args s = true) : b.before args s = true := by
  simp only [Jvm.Cond.before_and, Bool.and_eq_true] at h
  exact h.2
theorem st_not_there {cls target : String} {args : Array Jvm.Value} {s : Jvm.State} (hn : s.vm.findClass cls = none) : (Jvm.Cond.not (Jvm.Cond.castable cls target)).before args s = false := by
  simp [Jvm.Cond.before, Jvm.Cond.holds, Jvm.Cond.value, hn]
theorem st_pick {args : Array Jvm.Value} {s : Jvm.State} (h : narrow_1.before args s = true) : (Jvm.Cond.not (Jvm.Cond.castable "[Ljava/lang/StackTraceElement;" "java/lang/String")).before args s = true :=
  st_l (st_l (st_r (st_r (st_r (st_r (st_l (st_r (st_l h))))))))
theorem st_gap {args : Array Jvm.Value} {s : Jvm.State} (hn : s.vm.findClass "[Ljava/lang/StackTraceElement;" = none) : narrow_1.before args s = false := by
  cases h : narrow_1.before args s with
  | false => rfl
  | true =>
    have h1 := st_pick h
    rw [st_not_there hn] at h1
    exact absurd h1 (by decide)
theorem st_gap_given {args : Array Jvm.Value} {s : Jvm.State} (hn : s.vm.findClass "[Ljava/lang/StackTraceElement;" = none) : (Jvm.Cond.and given_1 narrow_1).before args s = false := by
  rw [Jvm.Cond.before_and, st_gap hn, Bool.and_false]
