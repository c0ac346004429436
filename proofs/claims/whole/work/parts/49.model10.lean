/-! ===== the reference: count, quarrel ===== -/
theorem ask_nat {I : AI} {t k : Int32} (h : askB I t k = true) : ∃ n, n < 720 ∧ t = nI n := by
  obtain ⟨n, hn, rfl⟩ := in_nat (ask_1 h) (n := 719) rfl (by decide)
  exact ⟨n, by omega, rfl⟩
def cntV (I : AI) (t k w : Int32) : Int32 := if askB I t k = false then -1 else if w = 0 then nI (cnt (mayB I k (nv t)) 96) else if ¬ w = 1 ∧ cellB (w - 10) = false then -1 else if w = 1 then nI (cnt (aftR I k (nv t)) 96) else bi (aftR I k (nv t) (nv (w - 10)))
theorem ix_w {n : Nat} {w : Int32} (hn : n < 720) (h : cellB (w - 10) = true) : vp_in (((96 * nI n) + w) - 10) 69120 ∧ (((96 * nI n) + w) - 10).toNatClampNeg = 96 * n + nv (w - 10) := by
  obtain ⟨y, hy, e⟩ := cell_nat h
  have e1 : ((96 : Int32) * nI n) + w - 10 = nI (96 * n + y) := by
    rw [Int32.sub_eq_add_neg, Int32.add_assoc, ← Int32.sub_eq_add_neg, e]; exact mul_add_nI 96 n y
  rw [e1, e, nv_nI (by omega)]
  exact ⟨vin (by omega) (by decide), nI_clamp (by omega)⟩
theorem c_Mcount1 (γ : GE) {b c : Bool} {I : AI} {J : AJ} (hI : MBase I) (t : Nat) (ht : t < 720) (k w : Int32) (ha : askB I (nI t) k = true) : Ct γ mX12_count 5 0 0 [.ref 100, .int (nI t), .int k, .int w] (SS b c) I J (rI1 (cntV I (nI t) k w) (SS b c) I J) := by
  have htt := told0 hI.1
  refine ct_of okX12_count (L := [some (.ref 100), some (.int (nI t)), some (.int k), some (.int w)]) (Nat.le_of_ble_eq_true rfl) rfl ?_
  refine r_run okX12_count 6 (cs := []) (σ' := (8, [some (.ref 100), some (.int (nI t)), some (.int k), some (.int w)], [.int k, .int (nI t), .ref 100], (SS b c), (upI I 100 0 0), J, 0, 0)) rfl trivial ?_
  simp only [htt]
  show Rj _ _ _ _ _ _ (8, [some (.ref 100), some (.int (nI t)), some (.int k), some (.int w)], [.int k, .int (nI t), .ref 100], (SS b c), I, J, 0, 0)
  refine r_callV okX12_count okX12_isAsked [.int (nI t), .int k] [] 100 rfl rfl rfl kkX12_isAsked rfl rfl (by decide) rfl rfl rfl (by decide) ⟨Nat.le_refl _, Nat.le_refl _⟩ (Nat.le_of_ble_eq_true rfl) (c_isAsked γ (nI t) k) (fun v1 S1 I1 J1 hp => ?_)
  obtain ⟨rfl, rfl, rfl, rfl⟩ := hp
  show Rj _ _ _ _ _ _ (11, [some (.ref 100), some (.int (nI t)), some (.int k), some (.int w)], [.int (bi (askB I (nI t) k))], (SS b c), I, J, 0, 0)
  refine r_ifc okX12_count rfl (fun (h11 : ¬ (bi (askB I (nI t) k)) = (0 : Int32)) => ?_) (fun h110 => ?_)
  · have h11s := bi_n0.mp h11
    refine r_run okX12_count 1 (cs := []) (σ' := (17, [some (.ref 100), some (.int (nI t)), some (.int k), some (.int w)], [.int w], (SS b c), I, J, 0, 0)) rfl trivial ?_
    refine r_ifc okX12_count rfl (fun (h17 : ¬ w = (0 : Int32)) => ?_) (fun h170 => ?_)
    · refine r_run okX12_count 2 (cs := []) (σ' := (34, [some (.ref 100), some (.int (nI t)), some (.int k), some (.int w)], [.int 1, .int w], (SS b c), I, J, 0, 0)) rfl trivial ?_
      refine r_icmp okX12_count rfl (fun (h34 : w = (1 : Int32)) => ?_) (fun (h34 : ¬ w = (1 : Int32)) => ?_)
      · refine r_run okX12_count 3 (cs := []) (σ' := (53, [some (.ref 100), some (.int (nI t)), some (.int k), some (.int w)], [.int k, .int (nI t), .ref 100], (SS b c), I, J, 0, 0)) rfl trivial ?_
        refine r_callV okX12_count okX12_findAfter [.int (nI t), .int k] [] 100 rfl rfl rfl kkX12_findAfter rfl rfl (by decide) rfl rfl rfl (by decide) ⟨Nat.le_refl _, Nat.le_refl _⟩ (Nat.le_of_ble_eq_true rfl) (c_findAfter γ hI.2.1 hI.2.2.1 hI.2.2.2.1 t k ht) (fun v1 S1 I1 J1 hp => ?_)
        obtain ⟨rfl, rfl, rfl, hk, hrow⟩ := hp
        show Rj _ _ _ _ _ _ (56, [some (.ref 100), some (.int (nI t)), some (.int k), some (.int w)], [], (SS b c), I1, J, 0, 0)
        refine r_run okX12_count 2 (cs := []) (σ' := (58, [some (.ref 100), some (.int (nI t)), some (.int k), some (.int w)], [.int 1, .int w], (SS b c), I1, J, 0, 0)) rfl trivial ?_
        refine r_icmp okX12_count rfl (fun (h58 : ¬ w = (1 : Int32)) => ?_) (fun h580 => ?_)
        · exact absurd h34 h58
        · have h58 : w = (1 : Int32) := Classical.not_not.mp h580
          refine r_run okX12_count 2 (cs := []) (σ' := (63, [some (.ref 100), some (.int (nI t)), some (.int k), some (.int w)], [.int (nI t), .ref 100], (SS b c), I1, J, 0, 0)) rfl trivial ?_
          refine r_callV okX12_count okX12_countAt [.int (nI t)] [] 100 rfl rfl rfl kkX12_countAt rfl rfl (by decide) rfl rfl rfl (by decide) ⟨Nat.le_refl _, Nat.le_refl _⟩ (Nat.le_of_ble_eq_true rfl) (c_countAt0 γ t (aftR I k t) ht hrow) (fun v1 S1 I1 J1 hp => ?_)
          obtain ⟨rfl, rfl, rfl, rfl⟩ := hp
          show Rj _ _ _ _ _ _ (66, [some (.ref 100), some (.int (nI t)), some (.int k), some (.int w)], [.int (nI (cnt (aftR I k t) 96))], (SS b c), I1, J, 0, 0)
          refine r_iret okX12_count rfl rfl rfl (Nat.le_refl _) (Nat.le_refl _) ?_
          refine ⟨_, ⟨?_, rfl, rfl, rfl⟩, ?_⟩
          · simp [cntV, ha, nv_nI (show t < 2 ^ 31 by omega), bi_t, bi_f, *]
          · intro a q; first | rfl | exact memM_ne q | exact hk a q
      · refine r_run okX12_count 4 (cs := []) (σ' := (42, [some (.ref 100), some (.int (nI t)), some (.int k), some (.int w)], [.int (w - 10), .ref 100], (SS b c), I, J, 0, 0)) rfl trivial ?_
        refine r_callV okX12_count okX12_isCell [.int (w - 10)] [] 100 rfl rfl rfl kkX12_isCell rfl rfl (by decide) rfl rfl rfl (by decide) ⟨Nat.le_refl _, Nat.le_refl _⟩ (Nat.le_of_ble_eq_true rfl) (c_isCell γ (w - 10)) (fun v1 S1 I1 J1 hp => ?_)
        obtain ⟨rfl, rfl, rfl, rfl⟩ := hp
        show Rj _ _ _ _ _ _ (45, [some (.ref 100), some (.int (nI t)), some (.int k), some (.int w)], [.int (bi (cellB (w - 10)))], (SS b c), I, J, 0, 0)
        refine r_ifc okX12_count rfl (fun (h45 : ¬ (bi (cellB (w - 10))) = (0 : Int32)) => ?_) (fun h450 => ?_)
        · have h45s := bi_n0.mp h45
          refine r_run okX12_count 3 (cs := []) (σ' := (53, [some (.ref 100), some (.int (nI t)), some (.int k), some (.int w)], [.int k, .int (nI t), .ref 100], (SS b c), I, J, 0, 0)) rfl trivial ?_
          refine r_callV okX12_count okX12_findAfter [.int (nI t), .int k] [] 100 rfl rfl rfl kkX12_findAfter rfl rfl (by decide) rfl rfl rfl (by decide) ⟨Nat.le_refl _, Nat.le_refl _⟩ (Nat.le_of_ble_eq_true rfl) (c_findAfter γ hI.2.1 hI.2.2.1 hI.2.2.2.1 t k ht) (fun v1 S1 I1 J1 hp => ?_)
          obtain ⟨rfl, rfl, rfl, hk, hrow⟩ := hp
          show Rj _ _ _ _ _ _ (56, [some (.ref 100), some (.int (nI t)), some (.int k), some (.int w)], [], (SS b c), I1, J, 0, 0)
          refine r_run okX12_count 2 (cs := []) (σ' := (58, [some (.ref 100), some (.int (nI t)), some (.int k), some (.int w)], [.int 1, .int w], (SS b c), I1, J, 0, 0)) rfl trivial ?_
          refine r_icmp okX12_count rfl (fun (h58_1 : ¬ w = (1 : Int32)) => ?_) (fun h58_10 => ?_)
          · refine r_run okX12_count 10 (cs := [vp_in (((96 * (nI t)) + w) - 10) 69120]) (σ' := (81, [some (.ref 100), some (.int (nI t)), some (.int k), some (.int w)], [.int (I1 116 ((((96 * (nI t)) + w) - 10).toNatClampNeg))], (SS b c), I1, J, 0, 0)) rfl ⟨(ix_w ht h45s).1, trivial⟩ ?_
            simp only [(ix_w ht h45s).2, (hrow _ (cell_lt h45s).1)]
            show Rj _ _ _ _ _ _ (81, [some (.ref 100), some (.int (nI t)), some (.int k), some (.int w)], [.int (bi (aftR I k t (nv (w - 10))))], (SS b c), I1, J, 0, 0)
            refine r_ifc okX12_count rfl (fun (h81 : (bi (aftR I k t (nv (w - 10)))) = (0 : Int32)) => ?_) (fun (h81 : ¬ (bi (aftR I k t (nv (w - 10)))) = (0 : Int32)) => ?_)
            · have h81s := bi_0.mp h81
              refine r_run okX12_count 1 (cs := []) (σ' := (89, [some (.ref 100), some (.int (nI t)), some (.int k), some (.int w)], [.int 0], (SS b c), I1, J, 0, 0)) rfl trivial ?_
              refine r_iret okX12_count rfl rfl rfl (Nat.le_refl _) (Nat.le_refl _) ?_
              refine ⟨_, ⟨?_, rfl, rfl, rfl⟩, ?_⟩
              · simp [cntV, ha, nv_nI (show t < 2 ^ 31 by omega), bi_t, bi_f, *]
              · intro a q; first | rfl | exact memM_ne q | exact hk a q
            · have h81s := bi_n0.mp h81
              refine r_run okX12_count 2 (cs := []) (σ' := (89, [some (.ref 100), some (.int (nI t)), some (.int k), some (.int w)], [.int 1], (SS b c), I1, J, 0, 0)) rfl trivial ?_
              refine r_iret okX12_count rfl rfl rfl (Nat.le_refl _) (Nat.le_refl _) ?_
              refine ⟨_, ⟨?_, rfl, rfl, rfl⟩, ?_⟩
              · simp [cntV, ha, nv_nI (show t < 2 ^ 31 by omega), bi_t, bi_f, *]
              · intro a q; first | rfl | exact memM_ne q | exact hk a q
          · have h58_1 : w = (1 : Int32) := Classical.not_not.mp h58_10
            exact absurd h58_1 h34
        · have h45 : (bi (cellB (w - 10))) = (0 : Int32) := Classical.not_not.mp h450
          have h45s := bi_0.mp h45
          refine r_run okX12_count 1 (cs := []) (σ' := (49, [some (.ref 100), some (.int (nI t)), some (.int k), some (.int w)], [.int (-1)], (SS b c), I, J, 0, 0)) rfl trivial ?_
          refine r_iret okX12_count rfl rfl rfl (Nat.le_refl _) (Nat.le_refl _) ?_
          refine ⟨_, ⟨?_, rfl, rfl, rfl⟩, ?_⟩
          · simp [cntV, ha, nv_nI (show t < 2 ^ 31 by omega), bi_t, bi_f, *]
          · intro a q; first | rfl | exact memM_ne q | exact hk a q
    · have h17 : w = (0 : Int32) := Classical.not_not.mp h170
      refine r_run okX12_count 3 (cs := []) (σ' := (23, [some (.ref 100), some (.int (nI t)), some (.int k), some (.int w)], [.int k, .int (nI t), .ref 100], (SS b c), I, J, 0, 0)) rfl trivial ?_
      refine r_callV okX12_count okX12_findMaybe [.int (nI t), .int k] [] 100 rfl rfl rfl kkX12_findMaybe rfl rfl (by decide) rfl rfl rfl (by decide) ⟨Nat.le_refl _, Nat.le_refl _⟩ (Nat.le_of_ble_eq_true rfl) (c_findMaybe0 γ t k ht hI.2.1 hI.2.2.1 hI.2.2.2.1) (fun v1 S1 I1 J1 hp => ?_)
      obtain ⟨rfl, rfl, rfl, rfl⟩ := hp
      show Rj _ _ _ _ _ _ (26, [some (.ref 100), some (.int (nI t)), some (.int k), some (.int w)], [], (SS b c), (memM I k (t + 1)), J, 0, 0)
      refine r_run okX12_count 2 (cs := []) (σ' := (28, [some (.ref 100), some (.int (nI t)), some (.int k), some (.int w)], [.int (nI t), .ref 100], (SS b c), (memM I k (t + 1)), J, 0, 0)) rfl trivial ?_
      refine r_callV okX12_count okX12_countAt [.int (nI t)] [] 100 rfl rfl rfl kkX12_countAt rfl rfl (by decide) rfl rfl rfl (by decide) ⟨Nat.le_refl _, Nat.le_refl _⟩ (Nat.le_of_ble_eq_true rfl) (c_countAt0 γ t (mayB I k t) ht (fun x hx => memM_at (by omega) hx)) (fun v1 S1 I1 J1 hp => ?_)
      obtain ⟨rfl, rfl, rfl, rfl⟩ := hp
      show Rj _ _ _ _ _ _ (31, [some (.ref 100), some (.int (nI t)), some (.int k), some (.int w)], [.int (nI (cnt (mayB I k t) 96))], (SS b c), (memM I k (t + 1)), J, 0, 0)
      refine r_iret okX12_count rfl rfl rfl (Nat.le_refl _) (Nat.le_refl _) ?_
      refine ⟨_, ⟨?_, rfl, rfl, rfl⟩, ?_⟩
      · simp [cntV, ha, nv_nI (show t < 2 ^ 31 by omega), bi_t, bi_f, *]
      · intro a q; first | rfl | exact memM_ne q | exact hk a q
  · have h11 : (bi (askB I (nI t) k)) = (0 : Int32) := Classical.not_not.mp h110
    have h11s := bi_0.mp h11
    exact absurd (bi_0.mp (Classical.not_not.mp h110)) (by rw [ha]; decide)
theorem c_Mcount0 (γ : GE) {b c : Bool} {I : AI} {J : AJ} (hI : MBase I) (t k w : Int32) (ha : askB I t k = false) : Ct γ mX12_count 5 0 0 [.ref 100, .int t, .int k, .int w] (SS b c) I J (rI1 (cntV I t k w) (SS b c) I J) := by
  have htt := told0 hI.1
  refine ct_of okX12_count (L := [some (.ref 100), some (.int t), some (.int k), some (.int w)]) (Nat.le_of_ble_eq_true rfl) rfl ?_
  refine r_run okX12_count 6 (cs := []) (σ' := (8, [some (.ref 100), some (.int t), some (.int k), some (.int w)], [.int k, .int t, .ref 100], (SS b c), (upI I 100 0 0), J, 0, 0)) rfl trivial ?_
  simp only [htt]
  show Rj _ _ _ _ _ _ (8, [some (.ref 100), some (.int t), some (.int k), some (.int w)], [.int k, .int t, .ref 100], (SS b c), I, J, 0, 0)
  refine r_callV okX12_count okX12_isAsked [.int t, .int k] [] 100 rfl rfl rfl kkX12_isAsked rfl rfl (by decide) rfl rfl rfl (by decide) ⟨Nat.le_refl _, Nat.le_refl _⟩ (Nat.le_of_ble_eq_true rfl) (c_isAsked γ t k) (fun v1 S1 I1 J1 hp => ?_)
  obtain ⟨rfl, rfl, rfl, rfl⟩ := hp
  show Rj _ _ _ _ _ _ (11, [some (.ref 100), some (.int t), some (.int k), some (.int w)], [.int (bi (askB I t k))], (SS b c), I, J, 0, 0)
  refine r_ifc okX12_count rfl (fun (h11 : ¬ (bi (askB I t k)) = (0 : Int32)) => ?_) (fun h110 => ?_)
  · have h11s := bi_n0.mp h11
    exact absurd (bi_n0.mp h11) (by rw [ha]; decide)
  · have h11 : (bi (askB I t k)) = (0 : Int32) := Classical.not_not.mp h110
    have h11s := bi_0.mp h11
    refine r_run okX12_count 1 (cs := []) (σ' := (15, [some (.ref 100), some (.int t), some (.int k), some (.int w)], [.int (-1)], (SS b c), I, J, 0, 0)) rfl trivial ?_
    refine r_iret okX12_count rfl rfl rfl (Nat.le_refl _) (Nat.le_refl _) ?_
    refine ⟨_, ⟨?_, rfl, rfl, rfl⟩, fun a q => rfl⟩
    simp [cntV, ha]
theorem c_Mcount (γ : GE) {b c : Bool} {I : AI} {J : AJ} (hI : MBase I) (t k w : Int32) : Ct γ mX12_count 5 0 0 [.ref 100, .int t, .int k, .int w] (SS b c) I J (rI1 (cntV I t k w) (SS b c) I J) := by
  cases ha : askB I t k with
  | false => exact c_Mcount0 γ hI t k w ha
  | true =>
    obtain ⟨n, hn, rfl⟩ := ask_nat ha
    exact c_Mcount1 γ hI n hn k w ha
/-- the first minute of s, s + 1, .., s + j - 1 without a cell -/
def quaN (I : AI) (k : Int32) : Nat → Nat → Int32
  | 0, _ => -1
  | j + 1, s => if cnt (mayB I k s) 96 = 0 then nI s else quaN I k j (s + 1)
def quaV (I : AI) (k : Int32) : Int32 := if inB k 0 (I 100 5) then quaN I k (nv k + 1 - nv (I 100 7)) (nv (I 100 7)) else -1
theorem lp_quarrel (γ : GE) {b c : Bool} {I : AI} {J : AJ} (n : Nat) (hn : n < 720) : ∀ (j q : Nat), (q + j = n + 1 ∨ (j = 0 ∧ n < q ∧ q < 720)) → Rj γ mX12_quarrel 4 0 0 (rI1 (quaN I (nI n) j q) (SS b c) I J) (31, [some (.ref 100), some (.int (nI n)), some (.int (nI q))], [], (SS b c), (memM I (nI n) (n + 1)), J, 0, 0) := by
  intro j
  induction j with
  | zero =>
    intro q hj
    refine r_run okX12_quarrel 2 (cs := []) (σ' := (33, [some (.ref 100), some (.int (nI n)), some (.int (nI q))], [.int (nI n), .int (nI q)], (SS b c), (memM I (nI n) (n + 1)), J, 0, 0)) rfl trivial ?_
    refine r_icmp okX12_quarrel rfl (fun (h33 : (nI n) < (nI q)) => ?_) (fun (h33 : ¬ (nI n) < (nI q)) => ?_)
    · refine r_run okX12_quarrel 1 (cs := []) (σ' := (53, [some (.ref 100), some (.int (nI n)), some (.int (nI q))], [.int (-1)], (SS b c), (memM I (nI n) (n + 1)), J, 0, 0)) rfl trivial ?_
      refine r_iret okX12_quarrel rfl rfl rfl (Nat.le_refl _) (Nat.le_refl _) ?_
      exact ⟨_, ⟨rfl, rfl, rfl, rfl⟩, fun a h => memM_ne h⟩
    · exact absurd (nI_lt (by omega) (by omega)) h33
  | succ j ih =>
    intro q hj
    refine r_run okX12_quarrel 2 (cs := []) (σ' := (33, [some (.ref 100), some (.int (nI n)), some (.int (nI q))], [.int (nI n), .int (nI q)], (SS b c), (memM I (nI n) (n + 1)), J, 0, 0)) rfl trivial ?_
    refine r_icmp okX12_quarrel rfl (fun (h33 : (nI n) < (nI q)) => ?_) (fun (h33 : ¬ (nI n) < (nI q)) => ?_)
    · exact absurd h33 (nI_nlt (by omega) (by omega))
    · refine r_run okX12_quarrel 2 (cs := []) (σ' := (38, [some (.ref 100), some (.int (nI n)), some (.int (nI q))], [.int (nI q), .ref 100], (SS b c), (memM I (nI n) (n + 1)), J, 0, 0)) rfl trivial ?_
      refine r_callV okX12_quarrel okX12_countAt [.int (nI q)] [] 100 rfl rfl rfl kkX12_countAt rfl rfl (by decide) rfl rfl rfl (by decide) ⟨Nat.le_refl _, Nat.le_refl _⟩ (Nat.le_of_ble_eq_true rfl) (c_countAt0 γ q (mayB I (nI n) q) (by omega) (fun x hx => memM_at (by omega) hx)) (fun v1 S1 I1 J1 hp => ?_)
      obtain ⟨rfl, rfl, rfl, rfl⟩ := hp
      show Rj _ _ _ _ _ _ (41, [some (.ref 100), some (.int (nI n)), some (.int (nI q))], [.int (nI (cnt (mayB I (nI n) q) 96))], (SS b c), (memM I (nI n) (n + 1)), J, 0, 0)
      refine r_ifc okX12_quarrel rfl (fun (h41 : ¬ (nI (cnt (mayB I (nI n) q) 96)) = (0 : Int32)) => ?_) (fun h410 => ?_)
      · have hc : ¬ cnt (mayB I (nI n) q) 96 = 0 := fun e => h41 (by rw [e]; exact nI_0)
        refine r_run okX12_quarrel 2 (cs := []) (σ' := (31, [some (.ref 100), some (.int (nI n)), some (.int (nI q + 1))], [], (SS b c), (memM I (nI n) (n + 1)), J, 0, 0)) rfl trivial ?_
        rw [← nI_succ, quaN, if_neg hc]
        exact ih (q + 1) (by omega)
      · have h41 : (nI (cnt (mayB I (nI n) q) 96)) = (0 : Int32) := Classical.not_not.mp h410
        have hc : cnt (mayB I (nI n) q) 96 = 0 := by
          have := cnt_le (f := mayB I (nI n) q) 96
          exact nI_inj (by omega) (by decide) (h41.trans nI_0.symm)
        refine r_run okX12_quarrel 1 (cs := []) (σ' := (45, [some (.ref 100), some (.int (nI n)), some (.int (nI q))], [.int (nI q)], (SS b c), (memM I (nI n) (n + 1)), J, 0, 0)) rfl trivial ?_
        refine r_iret okX12_quarrel rfl rfl rfl (Nat.le_refl _) (Nat.le_refl _) ?_
        rw [quaN, if_pos hc]
        exact ⟨_, ⟨rfl, rfl, rfl, rfl⟩, fun a h => memM_ne h⟩
theorem c_Mquarrel1 (γ : GE) {b c : Bool} {I : AI} {J : AJ} (hI : MBase I) (n : Nat) (hn : n < 720) (ha : inB (nI n) 0 (I 100 5) = true) : Ct γ mX12_quarrel 4 0 0 [.ref 100, .int (nI n)] (SS b c) I J (rI1 (quaV I (nI n)) (SS b c) I J) := by
  have htt := told0 hI.1
  have e7 : memM I (nI n) (n + 1) 100 7 = I 100 7 := by rw [memM_ne (by decide)]
  obtain ⟨m, hm, em⟩ := hI.2.2.2.1
  refine ct_of okX12_quarrel (L := [some (.ref 100), some (.int (nI n)), none]) (Nat.le_of_ble_eq_true rfl) rfl ?_
  refine r_run okX12_quarrel 8 (cs := []) (σ' := (12, [some (.ref 100), some (.int (nI n)), none], [.int ((upI I 100 0 0) 100 5), .int 0, .int (nI n), .ref 100], (SS b c), (upI I 100 0 0), J, 0, 0)) rfl trivial ?_
  simp only [htt]
  show Rj _ _ _ _ _ _ (12, [some (.ref 100), some (.int (nI n)), none], [.int (I 100 5), .int 0, .int (nI n), .ref 100], (SS b c), I, J, 0, 0)
  refine r_callV okX12_quarrel okX12_isIn [.int (nI n), .int 0, .int (I 100 5)] [] 100 rfl rfl rfl kkX12_isIn rfl rfl (by decide) rfl rfl rfl (by decide) ⟨Nat.le_refl _, Nat.le_refl _⟩ (Nat.le_of_ble_eq_true rfl) (c_isIn γ (nI n) 0 (I 100 5)) (fun v1 S1 I1 J1 hp => ?_)
  obtain ⟨rfl, rfl, rfl, rfl⟩ := hp
  show Rj _ _ _ _ _ _ (15, [some (.ref 100), some (.int (nI n)), none], [.int (bi (inB (nI n) 0 (I 100 5)))], (SS b c), I, J, 0, 0)
  refine r_ifc okX12_quarrel rfl (fun (h15 : ¬ (bi (inB (nI n) 0 (I 100 5))) = (0 : Int32)) => ?_) (fun h150 => ?_)
  · have h15s := bi_n0.mp h15
    refine r_run okX12_quarrel 3 (cs := []) (σ' := (23, [some (.ref 100), some (.int (nI n)), none], [.int (nI n), .int (nI n), .ref 100], (SS b c), I, J, 0, 0)) rfl trivial ?_
    refine r_callV okX12_quarrel okX12_findMaybe [.int (nI n), .int (nI n)] [] 100 rfl rfl rfl kkX12_findMaybe rfl rfl (by decide) rfl rfl rfl (by decide) ⟨Nat.le_refl _, Nat.le_refl _⟩ (Nat.le_of_ble_eq_true rfl) (c_findMaybe0 γ n (nI n) hn hI.2.1 hI.2.2.1 hI.2.2.2.1) (fun v1 S1 I1 J1 hp => ?_)
    obtain ⟨rfl, rfl, rfl, rfl⟩ := hp
    show Rj _ _ _ _ _ _ (26, [some (.ref 100), some (.int (nI n)), none], [], (SS b c), (memM I (nI n) (n + 1)), J, 0, 0)
    refine r_run okX12_quarrel 3 (cs := []) (σ' := (31, [some (.ref 100), some (.int (nI n)), some (.int ((memM I (nI n) (n + 1)) 100 7))], [], (SS b c), (memM I (nI n) (n + 1)), J, 0, 0)) rfl trivial ?_
    simp only [e7]
    show Rj _ _ _ _ _ _ (31, [some (.ref 100), some (.int (nI n)), some (.int (I 100 7))], [], (SS b c), (memM I (nI n) (n + 1)), J, 0, 0)
    rw [em, quaV, ha, if_pos rfl, em, nv_nI (by omega), nv_nI (by omega)]
    exact lp_quarrel γ n hn _ m (by omega)
  · have h15 : (bi (inB (nI n) 0 (I 100 5))) = (0 : Int32) := Classical.not_not.mp h150
    have h15s := bi_0.mp h15
    exact absurd (bi_0.mp (Classical.not_not.mp h150)) (by rw [ha]; decide)
theorem c_Mquarrel0 (γ : GE) {b c : Bool} {I : AI} {J : AJ} (hI : MBase I) (k : Int32) (ha : inB k 0 (I 100 5) = false) : Ct γ mX12_quarrel 4 0 0 [.ref 100, .int k] (SS b c) I J (rI1 (quaV I k) (SS b c) I J) := by
  have htt := told0 hI.1
  refine ct_of okX12_quarrel (L := [some (.ref 100), some (.int k), none]) (Nat.le_of_ble_eq_true rfl) rfl ?_
  refine r_run okX12_quarrel 8 (cs := []) (σ' := (12, [some (.ref 100), some (.int k), none], [.int ((upI I 100 0 0) 100 5), .int 0, .int k, .ref 100], (SS b c), (upI I 100 0 0), J, 0, 0)) rfl trivial ?_
  simp only [htt]
  show Rj _ _ _ _ _ _ (12, [some (.ref 100), some (.int k), none], [.int (I 100 5), .int 0, .int k, .ref 100], (SS b c), I, J, 0, 0)
  refine r_callV okX12_quarrel okX12_isIn [.int k, .int 0, .int (I 100 5)] [] 100 rfl rfl rfl kkX12_isIn rfl rfl (by decide) rfl rfl rfl (by decide) ⟨Nat.le_refl _, Nat.le_refl _⟩ (Nat.le_of_ble_eq_true rfl) (c_isIn γ k 0 (I 100 5)) (fun v1 S1 I1 J1 hp => ?_)
  obtain ⟨rfl, rfl, rfl, rfl⟩ := hp
  show Rj _ _ _ _ _ _ (15, [some (.ref 100), some (.int k), none], [.int (bi (inB k 0 (I 100 5)))], (SS b c), I, J, 0, 0)
  refine r_ifc okX12_quarrel rfl (fun (h15 : ¬ (bi (inB k 0 (I 100 5))) = (0 : Int32)) => ?_) (fun h150 => ?_)
  · have h15s := bi_n0.mp h15
    exact absurd (bi_n0.mp h15) (by rw [ha]; decide)
  · have h15 : (bi (inB k 0 (I 100 5))) = (0 : Int32) := Classical.not_not.mp h150
    have h15s := bi_0.mp h15
    refine r_run okX12_quarrel 1 (cs := []) (σ' := (19, [some (.ref 100), some (.int k), none], [.int (-1)], (SS b c), I, J, 0, 0)) rfl trivial ?_
    refine r_iret okX12_quarrel rfl rfl rfl (Nat.le_refl _) (Nat.le_refl _) ?_
    refine ⟨_, ⟨?_, rfl, rfl, rfl⟩, fun a q => rfl⟩
    simp [quaV, ha]
theorem c_Mquarrel (γ : GE) {b c : Bool} {I : AI} {J : AJ} (hI : MBase I) (k : Int32) : Ct γ mX12_quarrel 4 0 0 [.ref 100, .int k] (SS b c) I J (rI1 (quaV I k) (SS b c) I J) := by
  cases ha : inB k 0 (I 100 5) with
  | false => exact c_Mquarrel0 γ hI k ha
  | true =>
    obtain ⟨z, hz, ez⟩ := hI.2.2.2.2
    obtain ⟨n, hn, rfl⟩ := in_nat ha ez (by omega)
    exact c_Mquarrel1 γ hI n (by omega) ha
