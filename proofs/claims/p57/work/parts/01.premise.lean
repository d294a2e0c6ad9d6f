/-- the statement's premise holds in no state that has no class of this name: the printed witness has none, so it can't meet the premise -/
theorem pw_lacks (args : Array Value) (s : State) (h : s.vm.findClass "[Ljava/lang/StackTraceElement;" = none) : (Jvm.Cond.and given_1 narrow_1).before args s = false := by
  cases hb : (Jvm.Cond.and given_1 narrow_1).before args s with
  | false => rfl
  | true =>
    exfalso
    have hs := flat_of_before _ hb
    have h1 : (Jvm.Cond.not (Jvm.Cond.castable "[Ljava/lang/StackTraceElement;" "java/lang/String")).before args s = true := hs _ (by decide +kernel)
    simp [Cond.before, Cond.holds, Cond.value, h] at h1
