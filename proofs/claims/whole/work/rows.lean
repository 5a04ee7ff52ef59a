section
/-- no start in which the array class of StackTraceElement isn't loaded meets what the Statement gives -/
theorem ns_start (args : Array Value) (s : State) (h : s.vm.findClass "[Ljava/lang/StackTraceElement;" = none) : (Jvm.Cond.and given_1 narrow_1).before args s = false := by
  cases hb : (Jvm.Cond.and given_1 narrow_1).before args s with
  | false => rfl
  | true =>
    have hs := flat_of_before _ hb
    have hc : (Cond.not (Cond.castable "[Ljava/lang/StackTraceElement;" "java/lang/String")).before args s = true := hs _ (by decide +kernel)
    simp [Cond.before, Cond.holds, Cond.value, h] at hc
end
