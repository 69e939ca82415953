/-- what prepare's fall rests on: the premise narrow_1_2 can hold only where the tables have the array class of StackTraceElement -/
theorem dg_needs {args : Array Value} {s : State} (h : narrow_1_2.before args s = true) : s.vm.findClass "[Ljava/lang/StackTraceElement;" ≠ none := by
  have hs := flat_of_before _ h
  have hc : (Jvm.Cond.not (Jvm.Cond.castable "[Ljava/lang/StackTraceElement;" "java/lang/String")).before args s = true := hs _ (by decide +kernel)
  intro hn
  simp [Cond.before, Cond.holds, Cond.value, hn] at hc
