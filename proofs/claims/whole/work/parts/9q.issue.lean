/-! ===== issuing keeps the relation ===== -/
theorem issue_G {I M I' : AI} {J J' : AJ} {k : Nat} {m : Int32} (hO : OWarG I M J) (hk : k < 8) (hI : MWar M) (hP : IsG I M J k m (fun y => decide (¬ M 104 y = 0)) I' J') : OWarG I' (begN M (nI k) m) J' := by
  unfold IsG at hP; unfold begN
  cases q : thr M (nI k) (M 100 5) with
  | none =>
    rw [q] at hP
    simp only at hP ⊢
    rcases hP with ⟨h, rfl, rfl⟩ | ⟨h, rfl, hp⟩
    · rw [if_pos h]; exact hO
    · rw [if_neg h]
      have n45 := rg_nv hI.1 (by decide)
      have hn : nv (M 100 45) < 200 := by
        have : ¬ nv (M 100 45) = 200 := fun z => h (by rw [n45.2, z]; rfl)
        omega
      exact open_G hO hk hn n45.2 hp
  | some w =>
    rw [q] at hP
    simp only at hP ⊢
    obtain ⟨rfl, rfl⟩ := hP
    exact more_G hO
