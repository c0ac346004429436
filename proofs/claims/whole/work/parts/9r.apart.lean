/-! ===== the intervals stay apart ===== -/
theorem thrN_e2 {I : AI} {y t : Int32} : ∀ {n w : Nat}, thrN I y t n = some w → w < n ∧ I 127 w = y ∧ I 128 w ≤ t ∧ t < I 129 w
  | 0, w, h => by cases h
  | n + 1, w, h => by
    unfold thrN at h
    split at h
    · rename_i q; cases h; exact ⟨Nat.lt_succ_self _, q⟩
    · obtain ⟨a, b⟩ := thrN_e2 h; exact ⟨by omega, b⟩
theorem thrN_no {I : AI} {y t : Int32} : ∀ {n : Nat}, thrN I y t n = none → ∀ u, u < n → ¬ (I 127 u = y ∧ I 128 u ≤ t ∧ t < I 129 u)
  | 0, _, u, hu => by omega
  | n + 1, h, u, hu => by
    unfold thrN at h
    split at h
    · cases h
    · rename_i q
      by_cases e : u = n
      · subst e; exact q
      · exact thrN_no h u (by omega)
theorem WDis_up {M : AI} {w : Nat} {y v : Int32} (hD : WDis M) (hw : thr M y (M 100 5) = some w) (hv : M 100 5 ≤ v) : WDis (upI M 129 w v) := by
  obtain ⟨h1, h2, h3, h4⟩ := thrN_e2 hw
  have e : ∀ a, a ≠ 129 → upI M 129 w v a = M a := fun a h => upI_ne h
  refine ⟨fun u hu => ?_, fun u hu r hr he => ?_⟩
  · rw [e 100 (by decide)] at hu ⊢; rw [e 128 (by decide)]
    refine ⟨(hD.1 u hu).1, ?_⟩
    by_cases q : u = w
    · subst q; rw [upI_s]; exact Int32.le_trans h3 hv
    · rw [upI_n q]; exact (hD.1 u hu).2
  · rw [e 100 (by decide)] at hu; rw [e 127 (by decide)] at he; rw [e 128 (by decide)]
    by_cases q : r = w
    · subst q
      exact absurd (Int32.lt_of_lt_of_le h4 (Int32.le_trans (hD.2 u hu r hr he) (hD.1 u hu).1)) Int32.lt_irrefl
    · rw [upI_n q]; exact hD.2 u hu r hr he
theorem lift_D {M : AI} (hD : WDis M) (y : Int32) : WDis (lifN M y) := by
  unfold lifN
  cases q : thr M y (M 100 5) with
  | none => exact hD
  | some w => exact WDis_up hD q Int32.le_rfl
