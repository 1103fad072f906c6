theorem zz_ts_1_5 (x : Int32) : x = 1 ∨ x = 2 ∨ x = 3 ∨ x = 4 ∨ x = 5 ∨ (x.toInt < 1 ∨ 5 < x.toInt) := by
  have hc : x.toInt = 1 ∨ x.toInt = 2 ∨ x.toInt = 3 ∨ x.toInt = 4 ∨ x.toInt = 5 ∨ (x.toInt < 1 ∨ 5 < x.toInt) := by omega
  rcases hc with c | c | c | c | c | c
  · exact Or.inl (Int32.toInt_inj.mp (by rw [c]; rfl))
  · exact Or.inr (Or.inl (Int32.toInt_inj.mp (by rw [c]; rfl)))
  · exact Or.inr (Or.inr (Or.inl (Int32.toInt_inj.mp (by rw [c]; rfl))))
  · exact Or.inr (Or.inr (Or.inr (Or.inl (Int32.toInt_inj.mp (by rw [c]; rfl)))))
  · exact Or.inr (Or.inr (Or.inr (Or.inr (Or.inl (Int32.toInt_inj.mp (by rw [c]; rfl))))))
  · exact Or.inr (Or.inr (Or.inr (Or.inr (Or.inr (c)))))
theorem zz_ls_2_5 (x : Int32) : x = 2 ∨ x = 5 ∨ (¬ x = 2 ∧ ¬ x = 5) := by
  by_cases c1 : x = 2
  · exact Or.inl c1
  by_cases c2 : x = 5
  · exact Or.inr (Or.inl c2)
  exact Or.inr (Or.inr ⟨c1, c2⟩)
theorem zz_lo_2_5 (x : Int32) (h : ¬ x = 2 ∧ ¬ x = 5) : Op.lookupswitch.offset [(2, 27), (5, 29)] 43 x.toInt = 43 := by
  have n0 : ¬ (2 : Int) = x.toInt := fun q => h.1 (Int32.toInt_inj.mp (by rw [← q]; rfl))
  have m0 : ¬ x.toInt = (2 : Int) := fun q => n0 q.symm
  have n1 : ¬ (5 : Int) = x.toInt := fun q => h.2 (Int32.toInt_inj.mp (by rw [← q]; rfl))
  have m1 : ¬ x.toInt = (5 : Int) := fun q => n1 q.symm
  simp [Op.lookupswitch.offset, n0, n1, m0, m1]
theorem zz_ts_8_12 (x : Int32) : x = 8 ∨ x = 9 ∨ x = 10 ∨ x = 11 ∨ x = 12 ∨ (x.toInt < 8 ∨ 12 < x.toInt) := by
  have hc : x.toInt = 8 ∨ x.toInt = 9 ∨ x.toInt = 10 ∨ x.toInt = 11 ∨ x.toInt = 12 ∨ (x.toInt < 8 ∨ 12 < x.toInt) := by omega
  rcases hc with c | c | c | c | c | c
  · exact Or.inl (Int32.toInt_inj.mp (by rw [c]; rfl))
  · exact Or.inr (Or.inl (Int32.toInt_inj.mp (by rw [c]; rfl)))
  · exact Or.inr (Or.inr (Or.inl (Int32.toInt_inj.mp (by rw [c]; rfl))))
  · exact Or.inr (Or.inr (Or.inr (Or.inl (Int32.toInt_inj.mp (by rw [c]; rfl)))))
  · exact Or.inr (Or.inr (Or.inr (Or.inr (Or.inl (Int32.toInt_inj.mp (by rw [c]; rfl))))))
  · exact Or.inr (Or.inr (Or.inr (Or.inr (Or.inr (c)))))
theorem zz_ts_0_12 (x : Int32) : x = 0 ∨ x = 1 ∨ x = 2 ∨ x = 3 ∨ x = 4 ∨ x = 5 ∨ x = 6 ∨ x = 7 ∨ x = 8 ∨ x = 9 ∨ x = 10 ∨ x = 11 ∨ x = 12 ∨ (x.toInt < 0 ∨ 12 < x.toInt) := by
  have hc : x.toInt = 0 ∨ x.toInt = 1 ∨ x.toInt = 2 ∨ x.toInt = 3 ∨ x.toInt = 4 ∨ x.toInt = 5 ∨ x.toInt = 6 ∨ x.toInt = 7 ∨ x.toInt = 8 ∨ x.toInt = 9 ∨ x.toInt = 10 ∨ x.toInt = 11 ∨ x.toInt = 12 ∨ (x.toInt < 0 ∨ 12 < x.toInt) := by omega
  rcases hc with c | c | c | c | c | c | c | c | c | c | c | c | c | c
  · exact Or.inl (Int32.toInt_inj.mp (by rw [c]; rfl))
  · exact Or.inr (Or.inl (Int32.toInt_inj.mp (by rw [c]; rfl)))
  · exact Or.inr (Or.inr (Or.inl (Int32.toInt_inj.mp (by rw [c]; rfl))))
  · exact Or.inr (Or.inr (Or.inr (Or.inl (Int32.toInt_inj.mp (by rw [c]; rfl)))))
  · exact Or.inr (Or.inr (Or.inr (Or.inr (Or.inl (Int32.toInt_inj.mp (by rw [c]; rfl))))))
  · exact Or.inr (Or.inr (Or.inr (Or.inr (Or.inr (Or.inl (Int32.toInt_inj.mp (by rw [c]; rfl)))))))
  · exact Or.inr (Or.inr (Or.inr (Or.inr (Or.inr (Or.inr (Or.inl (Int32.toInt_inj.mp (by rw [c]; rfl))))))))
  · exact Or.inr (Or.inr (Or.inr (Or.inr (Or.inr (Or.inr (Or.inr (Or.inl (Int32.toInt_inj.mp (by rw [c]; rfl)))))))))
  · exact Or.inr (Or.inr (Or.inr (Or.inr (Or.inr (Or.inr (Or.inr (Or.inr (Or.inl (Int32.toInt_inj.mp (by rw [c]; rfl))))))))))
  · exact Or.inr (Or.inr (Or.inr (Or.inr (Or.inr (Or.inr (Or.inr (Or.inr (Or.inr (Or.inl (Int32.toInt_inj.mp (by rw [c]; rfl)))))))))))
  · exact Or.inr (Or.inr (Or.inr (Or.inr (Or.inr (Or.inr (Or.inr (Or.inr (Or.inr (Or.inr (Or.inl (Int32.toInt_inj.mp (by rw [c]; rfl))))))))))))
  · exact Or.inr (Or.inr (Or.inr (Or.inr (Or.inr (Or.inr (Or.inr (Or.inr (Or.inr (Or.inr (Or.inr (Or.inl (Int32.toInt_inj.mp (by rw [c]; rfl)))))))))))))
  · exact Or.inr (Or.inr (Or.inr (Or.inr (Or.inr (Or.inr (Or.inr (Or.inr (Or.inr (Or.inr (Or.inr (Or.inr (Or.inl (Int32.toInt_inj.mp (by rw [c]; rfl))))))))))))))
  · exact Or.inr (Or.inr (Or.inr (Or.inr (Or.inr (Or.inr (Or.inr (Or.inr (Or.inr (Or.inr (Or.inr (Or.inr (Or.inr (c)))))))))))))
theorem zz_ts_0_2 (x : Int32) : x = 0 ∨ x = 1 ∨ x = 2 ∨ (x.toInt < 0 ∨ 2 < x.toInt) := by
  have hc : x.toInt = 0 ∨ x.toInt = 1 ∨ x.toInt = 2 ∨ (x.toInt < 0 ∨ 2 < x.toInt) := by omega
  rcases hc with c | c | c | c
  · exact Or.inl (Int32.toInt_inj.mp (by rw [c]; rfl))
  · exact Or.inr (Or.inl (Int32.toInt_inj.mp (by rw [c]; rfl)))
  · exact Or.inr (Or.inr (Or.inl (Int32.toInt_inj.mp (by rw [c]; rfl))))
  · exact Or.inr (Or.inr (Or.inr (c)))
theorem zz_ts_0_5 (x : Int32) : x = 0 ∨ x = 1 ∨ x = 2 ∨ x = 3 ∨ x = 4 ∨ x = 5 ∨ (x.toInt < 0 ∨ 5 < x.toInt) := by
  have hc : x.toInt = 0 ∨ x.toInt = 1 ∨ x.toInt = 2 ∨ x.toInt = 3 ∨ x.toInt = 4 ∨ x.toInt = 5 ∨ (x.toInt < 0 ∨ 5 < x.toInt) := by omega
  rcases hc with c | c | c | c | c | c | c
  · exact Or.inl (Int32.toInt_inj.mp (by rw [c]; rfl))
  · exact Or.inr (Or.inl (Int32.toInt_inj.mp (by rw [c]; rfl)))
  · exact Or.inr (Or.inr (Or.inl (Int32.toInt_inj.mp (by rw [c]; rfl))))
  · exact Or.inr (Or.inr (Or.inr (Or.inl (Int32.toInt_inj.mp (by rw [c]; rfl)))))
  · exact Or.inr (Or.inr (Or.inr (Or.inr (Or.inl (Int32.toInt_inj.mp (by rw [c]; rfl))))))
  · exact Or.inr (Or.inr (Or.inr (Or.inr (Or.inr (Or.inl (Int32.toInt_inj.mp (by rw [c]; rfl)))))))
  · exact Or.inr (Or.inr (Or.inr (Or.inr (Or.inr (Or.inr (c))))))
theorem zz_ts_0_8 (x : Int32) : x = 0 ∨ x = 1 ∨ x = 2 ∨ x = 3 ∨ x = 4 ∨ x = 5 ∨ x = 6 ∨ x = 7 ∨ x = 8 ∨ (x.toInt < 0 ∨ 8 < x.toInt) := by
  have hc : x.toInt = 0 ∨ x.toInt = 1 ∨ x.toInt = 2 ∨ x.toInt = 3 ∨ x.toInt = 4 ∨ x.toInt = 5 ∨ x.toInt = 6 ∨ x.toInt = 7 ∨ x.toInt = 8 ∨ (x.toInt < 0 ∨ 8 < x.toInt) := by omega
  rcases hc with c | c | c | c | c | c | c | c | c | c
  · exact Or.inl (Int32.toInt_inj.mp (by rw [c]; rfl))
  · exact Or.inr (Or.inl (Int32.toInt_inj.mp (by rw [c]; rfl)))
  · exact Or.inr (Or.inr (Or.inl (Int32.toInt_inj.mp (by rw [c]; rfl))))
  · exact Or.inr (Or.inr (Or.inr (Or.inl (Int32.toInt_inj.mp (by rw [c]; rfl)))))
  · exact Or.inr (Or.inr (Or.inr (Or.inr (Or.inl (Int32.toInt_inj.mp (by rw [c]; rfl))))))
  · exact Or.inr (Or.inr (Or.inr (Or.inr (Or.inr (Or.inl (Int32.toInt_inj.mp (by rw [c]; rfl)))))))
  · exact Or.inr (Or.inr (Or.inr (Or.inr (Or.inr (Or.inr (Or.inl (Int32.toInt_inj.mp (by rw [c]; rfl))))))))
  · exact Or.inr (Or.inr (Or.inr (Or.inr (Or.inr (Or.inr (Or.inr (Or.inl (Int32.toInt_inj.mp (by rw [c]; rfl)))))))))
  · exact Or.inr (Or.inr (Or.inr (Or.inr (Or.inr (Or.inr (Or.inr (Or.inr (Or.inl (Int32.toInt_inj.mp (by rw [c]; rfl))))))))))
  · exact Or.inr (Or.inr (Or.inr (Or.inr (Or.inr (Or.inr (Or.inr (Or.inr (Or.inr (c)))))))))
theorem zz_ts_0_3 (x : Int32) : x = 0 ∨ x = 1 ∨ x = 2 ∨ x = 3 ∨ (x.toInt < 0 ∨ 3 < x.toInt) := by
  have hc : x.toInt = 0 ∨ x.toInt = 1 ∨ x.toInt = 2 ∨ x.toInt = 3 ∨ (x.toInt < 0 ∨ 3 < x.toInt) := by omega
  rcases hc with c | c | c | c | c
  · exact Or.inl (Int32.toInt_inj.mp (by rw [c]; rfl))
  · exact Or.inr (Or.inl (Int32.toInt_inj.mp (by rw [c]; rfl)))
  · exact Or.inr (Or.inr (Or.inl (Int32.toInt_inj.mp (by rw [c]; rfl))))
  · exact Or.inr (Or.inr (Or.inr (Or.inl (Int32.toInt_inj.mp (by rw [c]; rfl)))))
  · exact Or.inr (Or.inr (Or.inr (Or.inr (c))))
theorem zz_ts_4_8 (x : Int32) : x = 4 ∨ x = 5 ∨ x = 6 ∨ x = 7 ∨ x = 8 ∨ (x.toInt < 4 ∨ 8 < x.toInt) := by
  have hc : x.toInt = 4 ∨ x.toInt = 5 ∨ x.toInt = 6 ∨ x.toInt = 7 ∨ x.toInt = 8 ∨ (x.toInt < 4 ∨ 8 < x.toInt) := by omega
  rcases hc with c | c | c | c | c | c
  · exact Or.inl (Int32.toInt_inj.mp (by rw [c]; rfl))
  · exact Or.inr (Or.inl (Int32.toInt_inj.mp (by rw [c]; rfl)))
  · exact Or.inr (Or.inr (Or.inl (Int32.toInt_inj.mp (by rw [c]; rfl))))
  · exact Or.inr (Or.inr (Or.inr (Or.inl (Int32.toInt_inj.mp (by rw [c]; rfl)))))
  · exact Or.inr (Or.inr (Or.inr (Or.inr (Or.inl (Int32.toInt_inj.mp (by rw [c]; rfl))))))
  · exact Or.inr (Or.inr (Or.inr (Or.inr (Or.inr (c)))))
theorem zz_ls_1_2 (x : Int32) : x = 1 ∨ x = 2 ∨ (¬ x = 1 ∧ ¬ x = 2) := by
  by_cases c1 : x = 1
  · exact Or.inl c1
  by_cases c2 : x = 2
  · exact Or.inr (Or.inl c2)
  exact Or.inr (Or.inr ⟨c1, c2⟩)
theorem zz_lo_1_2 (x : Int32) (h : ¬ x = 1 ∧ ¬ x = 2) : Op.lookupswitch.offset [(1, 27), (2, 36)] 44 x.toInt = 44 := by
  have n0 : ¬ (1 : Int) = x.toInt := fun q => h.1 (Int32.toInt_inj.mp (by rw [← q]; rfl))
  have m0 : ¬ x.toInt = (1 : Int) := fun q => n0 q.symm
  have n1 : ¬ (2 : Int) = x.toInt := fun q => h.2 (Int32.toInt_inj.mp (by rw [← q]; rfl))
  have m1 : ¬ x.toInt = (2 : Int) := fun q => n1 q.symm
  simp [Op.lookupswitch.offset, n0, n1, m0, m1]
