/-! ===== what warn and lift keep ===== -/
theorem OWarG_up {I M : AI} {J : AJ} {w : Nat} {v : Int32} (hO : OWarG I M J) : OWarG (upI I 55 w v) (upI M 129 w v) J := by
  have e : ∀ a, a ≠ 129 → upI M 129 w v a = M a := fun a h => upI_ne h
  have g : ∀ a, a ≠ 55 → upI I 55 w v a = I a := fun a h => upI_ne h
  refine ⟨by rw [g 52 (by decide), e 100 (by decide)]; exact hO.1, fun u hu => ?_, fun k hk => ?_⟩
  · rw [e 100 (by decide)] at hu
    obtain ⟨a1, a2, a3, a4, a5, a6, a7, a8⟩ := hO.2.1 u hu
    rw [g 53 (by decide), g 54 (by decide), g 56 (by decide), g 57 (by decide), e 127 (by decide), e 128 (by decide), e 130 (by decide), e 131 (by decide)]
    refine ⟨a1, a2, ?_, a4, a5, a6, a7, fun x hx => by rw [a8 x hx, hsN_k (e 132 (by decide))]⟩
    by_cases q : u = w
    · subst q; rw [upI_s, upI_s]
    · rw [upI_n q, upI_n q]; exact a3
  · rw [g 60 (by decide), g 61 (by decide), e 133 (by decide), e 100 (by decide), laW_k (e 127 (by decide))]; exact hO.2.2 k hk
theorem lift_G {I M : AI} {J : AJ} (hO : OWarG I M J) (y : Int32) : OWarG (stoG I M y) (lifN M y) J := by
  unfold stoG lifN
  cases thr M y (M 100 5) with
  | none => exact hO
  | some w => exact OWarG_up hO
theorem upI_id {M : AI} {a k : Nat} : upI M a k (M a k) = M := by
  funext x y; unfold upI
  by_cases h : x = a
  · subst h
    by_cases q : y = k
    · subst q; rw [if_pos rfl, if_pos rfl]
    · rw [if_pos rfl, if_neg q]
  · rw [if_neg h]
theorem more_G {I M : AI} {J : AJ} {w : Nat} {x : Int32} (hO : OWarG I M J) : OWarG (upI I 55 w (if M 129 w < x then x else M 129 w)) (if M 129 w < x then upI M 129 w x else M) J := by
  by_cases h : M 129 w < x
  · rw [if_pos h, if_pos h]; exact OWarG_up hO
  · rw [if_neg h, if_neg h]
    have := OWarG_up (w := w) (v := M 129 w) hO
    rw [upI_id] at this; exact this
