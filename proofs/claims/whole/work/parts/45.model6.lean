/-! ===== the reference: moved, findMaybe ===== -/
def mvOK (x b : Nat) : Bool := decide (1 ≤ x % 12 + b % 3 ∧ x % 12 + b % 3 ≤ 12 ∧ 1 ≤ x / 12 + b / 3 ∧ x / 12 + b / 3 ≤ 8)
def mvT (x b : Nat) : Nat := 12 * (x / 12 + b / 3 - 1) + (x % 12 + b % 3 - 1)
def movI (x b : Nat) : Int32 := if mvOK x b then nI (mvT x b) else -1
theorem mv_dec : ∀ x, x < 96 → ∀ b, b < 9 → (inB (nI x - nI x / 12 * 12 + (nI b - nI b / 3 * 3) - 1) 0 11 && inB (nI x / 12 + nI b / 3 - 1) 0 7) = mvOK x b ∧ (mvOK x b = true → 12 * (nI x / 12 + nI b / 3 - 1) + (nI x - nI x / 12 * 12 + (nI b - nI b / 3 * 3) - 1) = nI (mvT x b) ∧ mvT x b < 96) := by decide +kernel
theorem c_moved0 (γ : GE) {bb c : Bool} {I : AI} {J : AJ} (x b : Nat) (hx : x < 96) (hb : b < 9) : Ct γ mX12_moved 1 0 0 [.ref 100, .int (nI x), .int (nI b)] (SS bb c) I J (rI (movI x b) (SS bb c) I J) := by
  obtain ⟨e1, e2⟩ := mv_dec x hx b hb
  refine ct_of okX12_moved (L := [some (.ref 100), some (.int (nI x)), some (.int (nI b)), none, none]) (Nat.le_of_ble_eq_true rfl) rfl ?_
  refine r_run okX12_moved 24 (cs := [¬ (12 : Int32) = 0, ¬ (3 : Int32) = 0, ¬ (12 : Int32) = 0, ¬ (3 : Int32) = 0]) (σ' := (28, [some (.ref 100), some (.int (nI x)), some (.int (nI b)), some (.int ((((nI x) - (nI x) / 12 * 12) + ((nI b) - (nI b) / 3 * 3)) - 1)), some (.int ((((nI x) / 12) + ((nI b) / 3)) - 1))], [.int 11, .int 0, .int ((((nI x) - (nI x) / 12 * 12) + ((nI b) - (nI b) / 3 * 3)) - 1), .ref 100], (SS bb c), I, J, 0, 0)) rfl ⟨(by decide), (by decide), (by decide), (by decide), trivial⟩ ?_
  refine r_callV okX12_moved okX12_isIn [.int ((((nI x) - (nI x) / 12 * 12) + ((nI b) - (nI b) / 3 * 3)) - 1), .int 0, .int 11] [] 100 rfl rfl rfl kkX12_isIn rfl rfl (by decide) rfl rfl rfl (by decide) ⟨Nat.le_refl _, Nat.le_refl _⟩ (Nat.le_of_ble_eq_true rfl) (c_isIn γ ((((nI x) - (nI x) / 12 * 12) + ((nI b) - (nI b) / 3 * 3)) - 1) 0 11) (fun v1 S1 I1 J1 hp => ?_)
  obtain ⟨rfl, rfl, rfl, rfl⟩ := hp
  show Rj _ _ _ _ _ _ (31, [some (.ref 100), some (.int (nI x)), some (.int (nI b)), some (.int ((((nI x) - (nI x) / 12 * 12) + ((nI b) - (nI b) / 3 * 3)) - 1)), some (.int ((((nI x) / 12) + ((nI b) / 3)) - 1))], [.int (bi (inB ((((nI x) - (nI x) / 12 * 12) + ((nI b) - (nI b) / 3 * 3)) - 1) 0 11))], (SS bb c), I, J, 0, 0)
  refine r_ifc okX12_moved rfl (fun (h31 : (bi (inB ((((nI x) - (nI x) / 12 * 12) + ((nI b) - (nI b) / 3 * 3)) - 1) 0 11)) = (0 : Int32)) => ?_) (fun (h31 : ¬ (bi (inB ((((nI x) - (nI x) / 12 * 12) + ((nI b) - (nI b) / 3 * 3)) - 1) 0 11)) = (0 : Int32)) => ?_)
  · have h31s := bi_0.mp h31
    refine r_run okX12_moved 1 (cs := []) (σ' := (57, [some (.ref 100), some (.int (nI x)), some (.int (nI b)), some (.int ((((nI x) - (nI x) / 12 * 12) + ((nI b) - (nI b) / 3 * 3)) - 1)), some (.int ((((nI x) / 12) + ((nI b) / 3)) - 1))], [.int (-1)], (SS bb c), I, J, 0, 0)) rfl trivial ?_
    refine r_iret okX12_moved rfl rfl rfl (Nat.le_refl _) (Nat.le_refl _) ?_
    refine ⟨?_, rfl, rfl, rfl⟩
    skip
    unfold movI
    rw [← e1]
    first | (simp only [h31s, Bool.false_and, if_false, Bool.false_eq_true]; done) | (simp only [h31s, h43s, Bool.and_false, if_false, Bool.false_eq_true]; done) | (rw [(e2 (by rw [← e1, h31s, h43s]; rfl)).1]; simp [h31s, h43s])
  · have h31s := bi_n0.mp h31
    refine r_run okX12_moved 4 (cs := []) (σ' := (40, [some (.ref 100), some (.int (nI x)), some (.int (nI b)), some (.int ((((nI x) - (nI x) / 12 * 12) + ((nI b) - (nI b) / 3 * 3)) - 1)), some (.int ((((nI x) / 12) + ((nI b) / 3)) - 1))], [.int 7, .int 0, .int ((((nI x) / 12) + ((nI b) / 3)) - 1), .ref 100], (SS bb c), I, J, 0, 0)) rfl trivial ?_
    refine r_callV okX12_moved okX12_isIn [.int ((((nI x) / 12) + ((nI b) / 3)) - 1), .int 0, .int 7] [] 100 rfl rfl rfl kkX12_isIn rfl rfl (by decide) rfl rfl rfl (by decide) ⟨Nat.le_refl _, Nat.le_refl _⟩ (Nat.le_of_ble_eq_true rfl) (c_isIn γ ((((nI x) / 12) + ((nI b) / 3)) - 1) 0 7) (fun v1 S1 I1 J1 hp => ?_)
    obtain ⟨rfl, rfl, rfl, rfl⟩ := hp
    show Rj _ _ _ _ _ _ (43, [some (.ref 100), some (.int (nI x)), some (.int (nI b)), some (.int ((((nI x) - (nI x) / 12 * 12) + ((nI b) - (nI b) / 3 * 3)) - 1)), some (.int ((((nI x) / 12) + ((nI b) / 3)) - 1))], [.int (bi (inB ((((nI x) / 12) + ((nI b) / 3)) - 1) 0 7))], (SS bb c), I, J, 0, 0)
    refine r_ifc okX12_moved rfl (fun (h43 : (bi (inB ((((nI x) / 12) + ((nI b) / 3)) - 1) 0 7)) = (0 : Int32)) => ?_) (fun (h43 : ¬ (bi (inB ((((nI x) / 12) + ((nI b) / 3)) - 1) 0 7)) = (0 : Int32)) => ?_)
    · have h43s := bi_0.mp h43
      refine r_run okX12_moved 1 (cs := []) (σ' := (57, [some (.ref 100), some (.int (nI x)), some (.int (nI b)), some (.int ((((nI x) - (nI x) / 12 * 12) + ((nI b) - (nI b) / 3 * 3)) - 1)), some (.int ((((nI x) / 12) + ((nI b) / 3)) - 1))], [.int (-1)], (SS bb c), I, J, 0, 0)) rfl trivial ?_
      refine r_iret okX12_moved rfl rfl rfl (Nat.le_refl _) (Nat.le_refl _) ?_
      refine ⟨?_, rfl, rfl, rfl⟩
      skip
      unfold movI
      rw [← e1]
      first | (simp only [h31s, Bool.false_and, if_false, Bool.false_eq_true]; done) | (simp only [h31s, h43s, Bool.and_false, if_false, Bool.false_eq_true]; done) | (rw [(e2 (by rw [← e1, h31s, h43s]; rfl)).1]; simp [h31s, h43s])
    · have h43s := bi_n0.mp h43
      refine r_run okX12_moved 6 (cs := []) (σ' := (57, [some (.ref 100), some (.int (nI x)), some (.int (nI b)), some (.int ((((nI x) - (nI x) / 12 * 12) + ((nI b) - (nI b) / 3 * 3)) - 1)), some (.int ((((nI x) / 12) + ((nI b) / 3)) - 1))], [.int ((12 * ((((nI x) / 12) + ((nI b) / 3)) - 1)) + ((((nI x) - (nI x) / 12 * 12) + ((nI b) - (nI b) / 3 * 3)) - 1))], (SS bb c), I, J, 0, 0)) rfl trivial ?_
      refine r_iret okX12_moved rfl rfl rfl (Nat.le_refl _) (Nat.le_refl _) ?_
      refine ⟨?_, rfl, rfl, rfl⟩
      skip
      unfold movI
      rw [← e1]
      first | (simp only [h31s, Bool.false_and, if_false, Bool.false_eq_true]; done) | (simp only [h31s, h43s, Bool.and_false, if_false, Bool.false_eq_true]; done) | (rw [(e2 (by rw [← e1, h31s, h43s]; rfl)).1]; simp [h31s, h43s])
