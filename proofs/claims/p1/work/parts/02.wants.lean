/-- the two halves of a word that is an 'and' -/
theorem zz_ba (a b : Cond) (args : Array Value) (s : State) (h : (Cond.and a b).before args s = true) : a.before args s = true ∧ b.before args s = true := by
  rw [Cond.before_and, Bool.and_eq_true] at h
  exact h
/-- a start that meets the second of the three parts of 'narrow' has the class of arrays of StackTraceElement in its tables -/
theorem zz_wants_class (args : Array Value) (s : State) (h : narrow_1_2.before args s = true) : s.vm.findClass "[Ljava/lang/StackTraceElement;" ≠ none := by
  intro hn
  have h1 : (Cond.not (Cond.castable "[Ljava/lang/StackTraceElement;" "java/lang/Integer")).before args s = true :=
    (zz_ba _ _ args s (zz_ba _ _ args s (zz_ba _ _ args s (zz_ba _ _ args s (zz_ba _ _ args s (zz_ba _ _ args s (zz_ba _ _ args s (zz_ba _ _ args s h).2).2).1).2).2).1).1).1
  rw [zz_not_castable args s _ hn] at h1
  exact Bool.noConfusion h1
