/-! What the premises of this claim ask of a start (REPORT.md, T1): it has a class called "[Ljava/lang/StackTraceElement;".
    So a state without one, as the printed witness is, meets them on no script. -/
theorem pm_leaf (args : Array Value) (s : State) (T : String) (h : s.vm.findClass "[Ljava/lang/StackTraceElement;" = none) :
    (Jvm.Cond.not (Jvm.Cond.castable "[Ljava/lang/StackTraceElement;" T)).before args s = false := by
  simp only [Jvm.Cond.before, Jvm.Cond.holds, Jvm.Cond.value, h]
  rfl
theorem pm_andL {args : Array Value} {s : State} {a b : Jvm.Cond} (h : (Jvm.Cond.and a b).before args s = true) : a.before args s = true := by
  rw [Cond.before_and, Bool.and_eq_true] at h
  exact h.1
theorem pm_andR {args : Array Value} {s : State} {a b : Jvm.Cond} (h : (Jvm.Cond.and a b).before args s = true) : b.before args s = true := by
  rw [Cond.before_and, Bool.and_eq_true] at h
  exact h.2
set_option maxRecDepth 100000 in
set_option maxHeartbeats 4000000 in
theorem pm_narrow (args : Array Value) (s : State) (h : s.vm.findClass "[Ljava/lang/StackTraceElement;" = none) : narrow_1_1.before args s = false := by
  have h1 := pm_leaf args s "java/lang/Integer" h
  unfold narrow_1_1
  simp only [Cond.before_and, h1, Bool.false_and, Bool.and_false]
theorem pm_start {tb : Tables} {e : Env} {args : Array Value} {s : State} (h : Pre_1 tb e args s) : s.vm.findClass "[Ljava/lang/StackTraceElement;" ≠ none := by
  intro hn
  have hp : (Jvm.Cond.and given_1 narrow_1).before args s = true := h
  have hq : narrow_1.before args s = true := pm_andR hp
  have hr : narrow_1_1.before args s = true := pm_andL (show (Jvm.Cond.and narrow_1_1 (Jvm.Cond.and narrow_1_2 narrow_1_3)).before args s = true from hq)
  rw [pm_narrow args s hn] at hr
  exact absurd hr (by decide)
