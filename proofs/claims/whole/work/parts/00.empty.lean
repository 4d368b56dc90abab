/-- Two words of the tables that no state meets together: 'declares' says that the method isn't static, 'static' says that it is. -/
theorem em_tables {args : Array Value} {s : State} (h : ∀ w ∈ tables_1, w.before args s = true) : False := by
  obtain ⟨m, meth, h1, h2, h3, -⟩ := Cond.declares_spec (h (.declares ⟨"ReversalMesh$Goal", "placeOf", "(II)I"⟩) (by decide +kernel))
  have h4 := Cond.static_spec h1 h2 (h (.static ⟨"ReversalMesh$Goal", "placeOf", "(II)I"⟩) (by decide +kernel))
  rw [h3] at h4
  cases h4
