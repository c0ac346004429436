/-! ===== the answers are the reference's ===== -/
theorem t_9 {t a : Nat} (ht : t < 720) (ha : a < 720) : decide (¬ nI a < nI t - 9) = decide (t - 9 ≤ a) := by
  by_cases h : 9 ≤ t
  · have e : nI t - 9 = nI (t - 9) := by
      have q : nI (t - 9) + nI 9 = nI t := by rw [nI_ad]; congr 1; omega
      rw [← q]; exact Int32.add_sub_cancel _ _
    rw [e]
    by_cases q : t - 9 ≤ a
    · rw [decide_eq_true q, decide_eq_true (nI_nlt q (by omega))]
    · rw [decide_eq_false q, decide_eq_false (fun z => z (nI_lt (by omega) (by omega)))]
  · have hn : ∀ t, t < 9 → nI t - 9 ≤ 0 := by decide
    have := hn t (by omega)
    rw [decide_eq_true (show t - 9 ≤ a by omega), decide_eq_true (Int32.not_lt.mpr (Int32.le_trans this (nI_pos' (by omega))))]
theorem rg_tk {I M : AI} {t k i : Nat} (ht : t < 720) (h5 : M 100 5 = nI t) (e10 : M 110 = I 110) (e12 : M 112 = I 112) (e13 : M 113 = I 113) (e1 : M 101 = I 101) (r10 : rg 4 (I 110 i)) (r12 : rg 720 (I 112 i)) : ∀ q, q < 3 → rgB I (nI q) (cyB I k) (t - 9) (t + 1 - (t - 9)) i = tkB M (nI k) q i := by
  intro q hq
  obtain ⟨a, ha, ea⟩ := r12
  obtain ⟨s, hs, es⟩ := r10
  unfold rgB tkB tkC tkK cyB
  rw [e10, e12, e13, e1, h5, ea, es, t_9 ht ha, nv_nI (by omega)]
  have e2 : decide (nI a ≤ nI t) = decide (a ≤ t) := by
    by_cases z : a ≤ t
    · rw [decide_eq_true z, decide_eq_true (nI_le z (by omega))]
    · rw [decide_eq_false z, decide_eq_false (nI_ge (by omega) (by omega))]
  have e3 : decide (t - 9 ≤ a ∧ a < t - 9 + (t + 1 - (t - 9))) = (decide (t - 9 ≤ a) && decide (a ≤ t)) := by
    rw [← Bool.decide_and]; congr 1; apply propext; constructor <;> (intro z; omega)
  rw [e2, e3]
  generalize decide (t - 9 ≤ a) = A
  generalize decide (a ≤ t) = B
  generalize decide (I 101 (nv (I 113 i)) = nI k) = C
  rcases (by omega : s = 0 ∨ s = 1 ∨ s = 2 ∨ s = 3) with rfl | rfl | rfl | rfl <;> rcases (by omega : q = 0 ∨ q = 1 ∨ q = 2) with rfl | rfl | rfl <;> cases A <;> cases B <;> cases C <;> rfl
