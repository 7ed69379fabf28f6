section
/-! What the start's premise asks of the tables: the class of StackTraceElement's arrays is there. (Evidence for REPORT.md, TRANSLATOR.) -/
theorem zz_asks {args : Array Value} {s : State} (h : (Jvm.Cond.and given_1 narrow_1).before args s = true) : (Cond.not (Cond.castable "[Ljava/lang/StackTraceElement;" "QuantileDesk$All")).before args s = true :=
  flat_of_before _ h _ (by decide +kernel)
theorem zz_there {args : Array Value} {s : State} (h : (Jvm.Cond.and given_1 narrow_1).before args s = true) : s.vm.findClass "[Ljava/lang/StackTraceElement;" ≠ none := by
  intro hn
  have h1 := zz_asks h
  simp [Cond.before, Cond.holds, Cond.value, hn] at h1
end
