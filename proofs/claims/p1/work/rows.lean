section
/-! What p1's premise asks of a start's class table: the array class below has to stand in it. -/
theorem pp_needs_class {args : Array Value} {s : State} (h : narrow_1_1.before args s = true) : ∃ c, s.vm.findClass "[Ljava/lang/StackTraceElement;" = some c := by
  have hs := flat_of_before _ h
  have h1 : (Cond.not (Cond.castable "[Ljava/lang/StackTraceElement;" "java/lang/String")).before args s = true := hs _ (by decide +kernel)
  have hv := Cond.holds_not_iff.mp h1
  cases hc : s.vm.findClass "[Ljava/lang/StackTraceElement;" with
  | some c => exact ⟨c, rfl⟩
  | none => simp [Cond.value, hc] at hv
/-- A start without that class doesn't meet the premise. -/
theorem pp_without_class {args : Array Value} {s : State} (h : s.vm.findClass "[Ljava/lang/StackTraceElement;" = none) : narrow_1_1.before args s = false := by
  cases hb : narrow_1_1.before args s with
  | false => rfl
  | true =>
    obtain ⟨c, hc⟩ := pp_needs_class hb
    rw [h] at hc
    cases hc
end
