/-! ===== a minute passes ===== -/
theorem now_D {M : AI} {v : Int32} (hD : WDis M) (hv : M 100 5 ≤ v) : WDis (upI M 100 5 v) := by
  have e : ∀ a, a ≠ 100 → upI M 100 5 v a = M a := fun a h => upI_ne h
  have e45 : upI M 100 5 v 100 45 = M 100 45 := upI_n (by decide)
  refine ⟨fun u hu => ?_, fun u hu r hr he => ?_⟩
  · rw [e45] at hu; rw [e 128 (by decide), e 129 (by decide), upI_s]
    exact ⟨Int32.le_trans (hD.1 u hu).1 hv, (hD.1 u hu).2⟩
  · rw [e45] at hu; rw [e 127 (by decide)] at he; rw [e 128 (by decide), e 129 (by decide)]; exact hD.2 u hu r hr he
theorem now_G {I M : AI} {J : AJ} {v w : Int32} (hO : OWarG I M J) : OWarG (upI I 0 15 w) (upI M 100 5 v) J := by
  have e : ∀ a, a ≠ 100 → upI M 100 5 v a = M a := fun a h => upI_ne h
  have g : ∀ a, a ≠ 0 → upI I 0 15 w a = I a := fun a h => upI_ne h
  have e45 : upI M 100 5 v 100 45 = M 100 45 := upI_n (by decide)
  refine ⟨by rw [g 52 (by decide), e45]; exact hO.1, fun u hu => ?_, fun k hk => ?_⟩
  · rw [e45] at hu
    obtain ⟨a1, a2, a3, a4, a5, a6, a7, a8⟩ := hO.2.1 u hu
    rw [g 53 (by decide), g 54 (by decide), g 55 (by decide), g 56 (by decide), g 57 (by decide), e 127 (by decide), e 128 (by decide), e 129 (by decide), e 130 (by decide), e 131 (by decide)]
    exact ⟨a1, a2, a3, a4, a5, a6, a7, fun x hx => by rw [a8 x hx, hsN_k (e 132 (by decide))]⟩
  · rw [g 60 (by decide), g 61 (by decide), e 133 (by decide), e45, laW_k (e 127 (by decide))]; exact hO.2.2 k hk
