/-! ===== heard within one cell: all nine moves ===== -/
theorem goes_all : ∀ p, p < 96 → ∀ x, x < 96 → goesN 511 p 9 x = decide (farN x p ≤ 1) := by decide +kernel
theorem from_all {f : Nat → Bool} {x : Nat} (hx : x < 96) : fromN 511 f 96 x = (List.range 96).any fun y => f y && decide (farN x y ≤ 1) := by
  unfold fromN
  rw [Bool.eq_iff_iff, List.any_eq_true, List.any_eq_true]
  constructor
  · intro ⟨y, hy, h⟩; exact ⟨y, hy, by rw [← goes_all y (List.mem_range.mp hy) x hx]; exact h⟩
  · intro ⟨y, hy, h⟩; exact ⟨y, hy, by rw [goes_all y (List.mem_range.mp hy) x hx]; exact h⟩
theorem from_hs {M : AI} {w x : Nat} (hx : x < 96) : fromN 511 (fun y => decide (¬ M 132 (96 * w + y) = 0)) 96 x = hsN M w x 96 := from_all hx
