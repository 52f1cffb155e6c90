section
/-- a start in which a class isn't found doesn't meet the word 'not castable' of it -/
theorem zz_not_castable (args : Array Value) (s : State) (t : String) (h : s.vm.findClass "[Ljava/lang/StackTraceElement;" = none) :
    (Cond.not (Cond.castable "[Ljava/lang/StackTraceElement;" t)).before args s = false := by
  simp [Cond.before, Cond.holds, Cond.value, h]
end
