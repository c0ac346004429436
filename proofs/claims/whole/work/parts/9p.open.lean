/-! ===== a new warning keeps the relation ===== -/
def begW (M : AI) (k n : Nat) (m : Int32) : AI := upI (cpS (begX M (nI k) m n) n 96) 100 45 (M 100 45 + 1)
theorem laW_c {I I' : AI} {y : Int32} : ∀ n, (∀ u, u < n → I' 127 u = I 127 u) → laW I' y n = laW I y n
  | 0, _ => rfl
  | n + 1, h => by unfold laW; rw [h n (by omega), laW_c n (fun u hu => h u (by omega))]
theorem bw_1 {M : AI} {k n : Nat} {m : Int32} (hk : k < 8) (en : M 100 45 = nI n) : begW M k n m 100 45 = nI (n + 1) ∧ begW M k n m 127 = upI M 127 n (nI k) 127 ∧ begW M k n m 128 = upI M 128 n (M 100 5) 128 ∧ begW M k n m 129 = upI M 129 n (M 100 5 + m) 129 ∧ begW M k n m 130 = upI M 130 n (M 133 k) 130 ∧ begW M k n m 131 = upI M 131 n 0 131 ∧ begW M k n m 133 = M 133 := by
  have e : ∀ a, a ≠ 100 → a ≠ 132 → begW M k n m a = begX M (nI k) m n a := fun a h1 h2 => by unfold begW; rw [upI_ne h1, cpS_ne h2]
  refine ⟨?_, ?_, ?_, ?_, ?_, ?_, ?_⟩
  · unfold begW; rw [upI_s, en]; exact nI_eq1
  · rw [e _ (by decide) (by decide)]; unfold begX; funext b; simp [upI]
  · rw [e _ (by decide) (by decide)]; unfold begX; funext b; simp [upI]
  · rw [e _ (by decide) (by decide)]; unfold begX; funext b; simp [upI]
  · rw [e _ (by decide) (by decide)]; unfold begX; rw [nv_nI (show k < 2 ^ 31 by omega)]; funext b; simp [upI]
  · rw [e _ (by decide) (by decide)]; unfold begX; funext b; simp [upI]
  · rw [e _ (by decide) (by decide)]; unfold begX; funext b; simp [upI]
theorem bw_2 {M : AI} {k n b : Nat} {m : Int32} : begW M k n m 132 b = if 96 * n ≤ b ∧ b < 96 * n + 96 then M 104 (b - 96 * n) else M 132 b := by
  unfold begW; rw [upI_ne (by decide)]; unfold cpS; rw [if_pos rfl]
  have e1 : begX M (nI k) m n 104 = M 104 := by unfold begX; funext b; simp [upI]
  have e2 : begX M (nI k) m n 132 = M 132 := by unfold begX; funext b; simp [upI]
  rw [e1, e2]
theorem any_g {f g : Nat → Bool} {n : Nat} (h : ∀ i, i < n → f i = g i) : (List.range n).any f = (List.range n).any g := by
  rw [Bool.eq_iff_iff, List.any_eq_true, List.any_eq_true]
  constructor
  · intro ⟨y, hy, q⟩; exact ⟨y, hy, by rw [← h y (List.mem_range.mp hy)]; exact q⟩
  · intro ⟨y, hy, q⟩; exact ⟨y, hy, by rw [h y (List.mem_range.mp hy)]; exact q⟩
theorem bw_hs {M : AI} {k n u x : Nat} {m : Int32} (hu : u < n) : hsN (begW M k n m) u x 96 = hsN M u x 96 := by
  unfold hsN; refine any_g fun y hy => ?_
  rw [bw_2, if_neg (by omega)]
theorem bw_hn {M : AI} {k n x : Nat} {m : Int32} (hx : x < 96) : hsN (begW M k n m) n x 96 = fromN 511 (fun y => decide (¬ M 104 y = 0)) 96 x := by
  rw [from_all hx]; unfold hsN; refine any_g fun y hy => ?_
  rw [bw_2, if_pos (by omega), show 96 * n + y - 96 * n = y by omega]
theorem open_G {I M : AI} {J J' : AJ} {k n : Nat} {m : Int32} (hO : OWarG I M J) (hk : k < 8) (hn : n < 200) (en : M 100 45 = nI n) (hP : OpP J n (fun y => decide (¬ M 104 y = 0)) J') : OWarG (opnI I n k (M 100 5) (M 100 5 + m)) (begW M k n m) J' := by
  obtain ⟨b0, b1, b2, b3, b4, b5, b6⟩ := bw_1 (m := m) hk en
  obtain ⟨p1, p2, p3, p4, p5⟩ := hP
  have en2 : nv (M 100 45) = n := by rw [en, nv_nI (by omega)]
  refine ⟨?_, fun u hu => ?_, fun j hj => ?_⟩
  · rw [b0]; unfold opnI; rw [upI_s]; exact nI_eq1
  · rw [b0, nv_nI (by omega)] at hu
    rw [b1, b2, b3, b4, b5]
    by_cases e : u = n
    · subst e
      rw [upI_s, upI_s, upI_s, upI_s, upI_s]
      refine ⟨by simp [opnI, upI], by simp [opnI, upI], by simp [opnI, upI], ?_, by simp [opnI, upI], p2, p3, fun x hx => by rw [p4 x hx, bw_hn hx]⟩
      rw [← (hO.2.2 k hk).1]; simp [opnI, upI]
    · obtain ⟨a1, a2, a3, a4, a5, a6, a7, a8⟩ := hO.2.1 u (by omega)
      rw [upI_n e, upI_n e, upI_n e, upI_n e, upI_n e, (p5 u e).1, (p5 u e).2]
      refine ⟨?_, ?_, ?_, ?_, ?_, a6, a7, fun x hx => by rw [a8 x hx, bw_hs (by omega)]⟩
      · rw [← a1]; simp [opnI, upI, e]
      · rw [← a2]; simp [opnI, upI, e]
      · rw [← a3]; simp [opnI, upI, e]
      · rw [← a4]; simp [opnI, upI, e]
      · rw [← a5]; simp [opnI, upI, e]
  · rw [b6, b0, nv_nI (by omega)]
    obtain ⟨c1, c2⟩ := hO.2.2 j hj
    refine ⟨by rw [← c1]; simp [opnI, upI], ?_⟩
    unfold laW; rw [b1, upI_s]
    by_cases e : j = k
    · subst e; rw [if_pos rfl]; simp [opnI, upI]; rfl
    · rw [if_neg (fun z => e (nI_inj (by omega) (by omega) z).symm), laW_c (I := M) n (fun u hu => by rw [b1, upI_n (by omega)]), ← en2, ← c2]
      simp [opnI, upI, e]
