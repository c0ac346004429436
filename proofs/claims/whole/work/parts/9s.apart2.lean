/-! ===== the intervals stay apart: a new warning ===== -/
theorem open_D {M : AI} {k n : Nat} {m : Int32} (hD : WDis M) (hk : k < 8) (hn : n < 200) (en : M 100 45 = nI n) (hno : thr M (nI k) (M 100 5) = none) (hm : M 100 5 ≤ M 100 5 + m) : WDis (begW M k n m) := by
  obtain ⟨b0, b1, b2, b3, b4, b5, b6⟩ := bw_1 (m := m) hk en
  have en2 : nv (M 100 45) = n := by rw [en, nv_nI (by omega)]
  have e5 : begW M k n m 100 5 = M 100 5 := by
    have q : begX M (nI k) m n 100 = M 100 := by unfold begX; funext b; simp [upI]
    unfold begW; rw [upI_n (by decide), cpS_ne (by decide), q]
  have no := thrN_no hno
  refine ⟨fun u hu => ?_, fun u hu r hr he => ?_⟩
  · rw [b0, nv_nI (by omega)] at hu
    rw [b2, b3, e5]
    by_cases e : u = n
    · subst e; rw [upI_s, upI_s]; exact ⟨Int32.le_rfl, hm⟩
    · rw [upI_n e, upI_n e]; exact hD.1 u (by omega)
  · rw [b0, nv_nI (by omega)] at hu
    have er : ¬ r = n := by omega
    rw [b1] at he; rw [b2, b3, upI_n er]
    rw [upI_n er] at he
    by_cases e : u = n
    · subst e; rw [upI_s] at he; rw [upI_s]
      exact Int32.not_lt.mp fun z => no r (by omega) ⟨he, (hD.1 r (by omega)).1, z⟩
    · rw [upI_n e] at he; rw [upI_n e]; exact hD.2 u (by omega) r hr he
theorem beg_D {M : AI} {k : Nat} {m : Int32} (hD : WDis M) (hk : k < 8) (hI : MWar M) (hm : M 100 5 ≤ M 100 5 + m) : WDis (begN M (nI k) m) := by
  unfold begN
  cases q : thr M (nI k) (M 100 5) with
  | none =>
    simp only
    by_cases h : M 100 45 = 200
    · rw [if_pos h]; exact hD
    · rw [if_neg h]
      have n45 := rg_nv hI.1 (by decide)
      have hn : nv (M 100 45) < 200 := by
        have : ¬ nv (M 100 45) = 200 := fun z => h (by rw [n45.2, z]; rfl)
        omega
      exact open_D hD hk hn n45.2 q hm
  | some w =>
    simp only
    split
    · exact WDis_up hD q hm
    · exact hD
