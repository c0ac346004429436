/-! ===== the reference: radar, blind, of ===== -/
def clB (I : AI) (a k : Nat) : AI := fun x y => if x = 109 then (if a ≤ y ∧ y < a + k then 0 else I x y) else I x y
theorem clB_0 {I : AI} {a : Nat} : clB I a 0 = I := by funext x y; simp only [clB]; split <;> (try split) <;> simp_all; omega
theorem clB_s {I : AI} {a k : Nat} : upI (clB I a k) 109 (a + k) 0 = clB I a (k + 1) := by
  funext x y
  simp only [clB, upI]
  by_cases h : x = 109
  · by_cases h1 : y = a + k
    · simp [h, h1]
    · have e : (a ≤ y ∧ y < a + (k + 1)) = (a ≤ y ∧ y < a + k) := by apply propext; omega
      simp only [h, h1, if_true, if_false, e]
  · simp [h]
def radB (r x f q : Int32) : Bool := inB r 0 2 && (cellB x && (inB f 0 11 && inB q 0 3))
def radN (I : AI) (r x f q : Int32) : AI := if radB r x f q then clB (upI (upI (upI (upI I 105 (nv r) 1) 106 (nv r) x) 107 (nv r) f) 108 (nv r) q) (96 * nv r) 96 else I
theorem lp_Mradar (γ : GE) {b c : Bool} {I : AI} {J : AJ} (r : Nat) (hr : r < 3) (x f q : Int32) : ∀ (j k : Nat), k + j = 96 → Rj γ mX12_radar 1 0 0 (rI 1 (SS b c) (clB I (96 * r) 96) J) (79, [some (.ref 100), some (.int (nI r)), some (.int x), some (.int f), some (.int q), some (.int (nI k))], [], (SS b c), (clB I (96 * r) k), J, 0, 0) := by
  intro j
  induction j with
  | zero =>
    intro k hk
    refine r_run okX12_radar 2 (cs := []) (σ' := (83, [some (.ref 100), some (.int (nI r)), some (.int x), some (.int f), some (.int q), some (.int (nI k))], [.int 96, .int (nI k)], (SS b c), (clB I (96 * r) k), J, 0, 0)) rfl trivial ?_
    refine r_icmp okX12_radar rfl (fun (h83 : (96 : Int32) ≤ (nI k)) => ?_) (fun (h83 : ¬ (96 : Int32) ≤ (nI k)) => ?_)
    · refine r_run okX12_radar 1 (cs := []) (σ' := (106, [some (.ref 100), some (.int (nI r)), some (.int x), some (.int f), some (.int q), some (.int (nI k))], [.int 1], (SS b c), (clB I (96 * r) k), J, 0, 0)) rfl trivial ?_
      refine r_iret okX12_radar rfl rfl (by decide +kernel) (Nat.le_refl _) (Nat.le_refl _) ?_
      rw [show k = 96 by omega]
      exact ⟨rfl, rfl, rfl, rfl⟩
    · exact absurd (nI_le (a := 96) (by omega) (by omega)) h83
  | succ j ih =>
    intro k hk
    have ck : ((96 : Int32) * nI r + nI k).toNatClampNeg = 96 * r + k := by rw [show (96 : Int32) * nI r + nI k = nI (96 * r + k) from mul_add_nI 96 r k]; exact nI_clamp (by omega)
    refine r_run okX12_radar 2 (cs := []) (σ' := (83, [some (.ref 100), some (.int (nI r)), some (.int x), some (.int f), some (.int q), some (.int (nI k))], [.int 96, .int (nI k)], (SS b c), (clB I (96 * r) k), J, 0, 0)) rfl trivial ?_
    refine r_icmp okX12_radar rfl (fun (h83 : (96 : Int32) ≤ (nI k)) => ?_) (fun (h83 : ¬ (96 : Int32) ≤ (nI k)) => ?_)
    · exact absurd h83 (nI_ge (b := 96) (by omega) (by decide))
    · refine r_run okX12_radar 11 (cs := [vp_in ((96 * (nI r)) + (nI k)) 288, bz 0]) (σ' := (79, [some (.ref 100), some (.int (nI r)), some (.int x), some (.int f), some (.int q), some (.int (nI k + 1))], [], (SS b c), (upI (clB I (96 * r) k) 109 (((96 * (nI r)) + (nI k)).toNatClampNeg) 0), J, 0, 0)) rfl ⟨(by rw [show (96 : Int32) * nI r + nI k = nI (96 * r + k) from mul_add_nI 96 r k]; exact vin (by omega) (by decide)), (Or.inl rfl), trivial⟩ ?_
      simp only [ck]
      show Rj _ _ _ _ _ _ (79, [some (.ref 100), some (.int (nI r)), some (.int x), some (.int f), some (.int q), some (.int (nI k + 1))], [], (SS b c), (upI (clB I (96 * r) k) 109 (96 * r + k) 0), J, 0, 0)
      rw [clB_s, ← nI_succ]
      exact ih (k + 1) (by omega)
theorem c_Mradar1 (γ : GE) {b c : Bool} {I : AI} {J : AJ} (hT : I 100 0 = 0) (r : Nat) (hr : r < 3) (x f q : Int32) : Ct γ mX12_radar 1 0 0 [.ref 100, .int (nI r), .int x, .int f, .int q] (SS b c) I J (rI (bi (radB (nI r) x f q)) (SS b c) (radN I (nI r) x f q) J) := by
  have ht := told0 hT
  have cr : (nI r).toNatClampNeg = r := nI_clamp (by omega)
  refine ct_of okX12_radar (L := [some (.ref 100), some (.int (nI r)), some (.int x), some (.int f), some (.int q), none]) (Nat.le_of_ble_eq_true rfl) rfl ?_
  refine r_run okX12_radar 7 (cs := []) (σ' := (9, [some (.ref 100), some (.int (nI r)), some (.int x), some (.int f), some (.int q), none], [.int 2, .int 0, .int (nI r), .ref 100], (SS b c), (upI I 100 0 0), J, 0, 0)) rfl trivial ?_
  simp only [ht]
  show Rj _ _ _ _ _ _ (9, [some (.ref 100), some (.int (nI r)), some (.int x), some (.int f), some (.int q), none], [.int 2, .int 0, .int (nI r), .ref 100], (SS b c), I, J, 0, 0)
  refine r_callV okX12_radar okX12_isIn [.int (nI r), .int 0, .int 2] [] 100 rfl rfl rfl kkX12_isIn rfl rfl (by decide) rfl rfl rfl (by decide) ⟨Nat.le_refl _, Nat.le_refl _⟩ (Nat.le_of_ble_eq_true rfl) (c_isIn γ (nI r) 0 2) (fun v1 S1 I1 J1 hp => ?_)
  obtain ⟨rfl, rfl, rfl, rfl⟩ := hp
  show Rj _ _ _ _ _ _ (12, [some (.ref 100), some (.int (nI r)), some (.int x), some (.int f), some (.int q), none], [.int (bi (inB (nI r) 0 2))], (SS b c), I, J, 0, 0)
  refine r_ifc okX12_radar rfl (fun (h12 : (bi (inB (nI r) 0 2)) = (0 : Int32)) => ?_) (fun (h12 : ¬ (bi (inB (nI r) 0 2)) = (0 : Int32)) => ?_)
  · have h12s := bi_0.mp h12
    refine r_run okX12_radar 1 (cs := []) (σ' := (46, [some (.ref 100), some (.int (nI r)), some (.int x), some (.int f), some (.int q), none], [.int 0], (SS b c), I, J, 0, 0)) rfl trivial ?_
    refine r_iret okX12_radar rfl rfl (by decide +kernel) (Nat.le_refl _) (Nat.le_refl _) ?_
    refine ⟨?_, rfl, ?_, rfl⟩ <;> simp [radN, radB, bi, *]
  · have h12s := bi_n0.mp h12
    refine r_run okX12_radar 2 (cs := []) (σ' := (17, [some (.ref 100), some (.int (nI r)), some (.int x), some (.int f), some (.int q), none], [.int x, .ref 100], (SS b c), I, J, 0, 0)) rfl trivial ?_
    refine r_callV okX12_radar okX12_isCell [.int x] [] 100 rfl rfl rfl kkX12_isCell rfl rfl (by decide) rfl rfl rfl (by decide) ⟨Nat.le_refl _, Nat.le_refl _⟩ (Nat.le_of_ble_eq_true rfl) (c_isCell γ x) (fun v1 S1 I1 J1 hp => ?_)
    obtain ⟨rfl, rfl, rfl, rfl⟩ := hp
    show Rj _ _ _ _ _ _ (20, [some (.ref 100), some (.int (nI r)), some (.int x), some (.int f), some (.int q), none], [.int (bi (cellB x))], (SS b c), I, J, 0, 0)
    refine r_ifc okX12_radar rfl (fun (h20 : (bi (cellB x)) = (0 : Int32)) => ?_) (fun (h20 : ¬ (bi (cellB x)) = (0 : Int32)) => ?_)
    · have h20s := bi_0.mp h20
      refine r_run okX12_radar 1 (cs := []) (σ' := (46, [some (.ref 100), some (.int (nI r)), some (.int x), some (.int f), some (.int q), none], [.int 0], (SS b c), I, J, 0, 0)) rfl trivial ?_
      refine r_iret okX12_radar rfl rfl (by decide +kernel) (Nat.le_refl _) (Nat.le_refl _) ?_
      refine ⟨?_, rfl, ?_, rfl⟩ <;> simp [radN, radB, bi, *]
    · have h20s := bi_n0.mp h20
      refine r_run okX12_radar 4 (cs := []) (σ' := (28, [some (.ref 100), some (.int (nI r)), some (.int x), some (.int f), some (.int q), none], [.int 11, .int 0, .int f, .ref 100], (SS b c), I, J, 0, 0)) rfl trivial ?_
      refine r_callV okX12_radar okX12_isIn [.int f, .int 0, .int 11] [] 100 rfl rfl rfl kkX12_isIn rfl rfl (by decide) rfl rfl rfl (by decide) ⟨Nat.le_refl _, Nat.le_refl _⟩ (Nat.le_of_ble_eq_true rfl) (c_isIn γ f 0 11) (fun v1 S1 I1 J1 hp => ?_)
      obtain ⟨rfl, rfl, rfl, rfl⟩ := hp
      show Rj _ _ _ _ _ _ (31, [some (.ref 100), some (.int (nI r)), some (.int x), some (.int f), some (.int q), none], [.int (bi (inB f 0 11))], (SS b c), I, J, 0, 0)
      refine r_ifc okX12_radar rfl (fun (h31 : (bi (inB f 0 11)) = (0 : Int32)) => ?_) (fun (h31 : ¬ (bi (inB f 0 11)) = (0 : Int32)) => ?_)
      · have h31s := bi_0.mp h31
        refine r_run okX12_radar 1 (cs := []) (σ' := (46, [some (.ref 100), some (.int (nI r)), some (.int x), some (.int f), some (.int q), none], [.int 0], (SS b c), I, J, 0, 0)) rfl trivial ?_
        refine r_iret okX12_radar rfl rfl (by decide +kernel) (Nat.le_refl _) (Nat.le_refl _) ?_
        refine ⟨?_, rfl, ?_, rfl⟩ <;> simp [radN, radB, bi, *]
      · have h31s := bi_n0.mp h31
        refine r_run okX12_radar 4 (cs := []) (σ' := (39, [some (.ref 100), some (.int (nI r)), some (.int x), some (.int f), some (.int q), none], [.int 3, .int 0, .int q, .ref 100], (SS b c), I, J, 0, 0)) rfl trivial ?_
        refine r_callV okX12_radar okX12_isIn [.int q, .int 0, .int 3] [] 100 rfl rfl rfl kkX12_isIn rfl rfl (by decide) rfl rfl rfl (by decide) ⟨Nat.le_refl _, Nat.le_refl _⟩ (Nat.le_of_ble_eq_true rfl) (c_isIn γ q 0 3) (fun v1 S1 I1 J1 hp => ?_)
        obtain ⟨rfl, rfl, rfl, rfl⟩ := hp
        show Rj _ _ _ _ _ _ (42, [some (.ref 100), some (.int (nI r)), some (.int x), some (.int f), some (.int q), none], [.int (bi (inB q 0 3))], (SS b c), I, J, 0, 0)
        refine r_ifc okX12_radar rfl (fun (h42 : ¬ (bi (inB q 0 3)) = (0 : Int32)) => ?_) (fun h420 => ?_)
        · have h42s := bi_n0.mp h42
          refine r_run okX12_radar 22 (cs := [vp_in (nI r) 3, bz 1, vp_in (nI r) 3, vp_in (nI r) 3, vp_in (nI r) 3]) (σ' := (79, [some (.ref 100), some (.int (nI r)), some (.int x), some (.int f), some (.int q), some (.int 0)], [], (SS b c), (upI (upI (upI (upI I 105 ((nI r).toNatClampNeg) 1) 106 ((nI r).toNatClampNeg) x) 107 ((nI r).toNatClampNeg) f) 108 ((nI r).toNatClampNeg) q), J, 0, 0)) rfl ⟨(vin hr (by decide)), (Or.inr rfl), (vin hr (by decide)), (vin hr (by decide)), (vin hr (by decide)), trivial⟩ ?_
          simp only [cr]
          show Rj _ _ _ _ _ _ (79, [some (.ref 100), some (.int (nI r)), some (.int x), some (.int f), some (.int q), some (.int 0)], [], (SS b c), (upI (upI (upI (upI I 105 r 1) 106 r x) 107 r f) 108 r q), J, 0, 0)
          have h := lp_Mradar γ (b := b) (c := c) (I := upI (upI (upI (upI I 105 r 1) 106 r x) 107 r f) 108 r q) (J := J) r hr x f q 96 0 rfl
          rw [clB_0, nI_0] at h
          simp only [radN, radB, nv_nI (show r < 2 ^ 31 by omega), h12s, h20s, h31s, h42s, Bool.and_self, Bool.true_and, if_true, bi]
          exact h
        · have h42 : (bi (inB q 0 3)) = (0 : Int32) := Classical.not_not.mp h420
          have h42s := bi_0.mp h42
          refine r_run okX12_radar 1 (cs := []) (σ' := (46, [some (.ref 100), some (.int (nI r)), some (.int x), some (.int f), some (.int q), none], [.int 0], (SS b c), I, J, 0, 0)) rfl trivial ?_
          refine r_iret okX12_radar rfl rfl (by decide +kernel) (Nat.le_refl _) (Nat.le_refl _) ?_
          refine ⟨?_, rfl, ?_, rfl⟩ <;> simp [radN, radB, bi, *]
theorem c_Mradar0 (γ : GE) {b c : Bool} {I : AI} {J : AJ} (hT : I 100 0 = 0) (r : Int32) (hr : inB r 0 2 = false) (x f q : Int32) : Ct γ mX12_radar 1 0 0 [.ref 100, .int r, .int x, .int f, .int q] (SS b c) I J (rI (bi (radB r x f q)) (SS b c) (radN I r x f q) J) := by
  have ht := told0 hT
  refine ct_of okX12_radar (L := [some (.ref 100), some (.int r), some (.int x), some (.int f), some (.int q), none]) (Nat.le_of_ble_eq_true rfl) rfl ?_
  refine r_run okX12_radar 7 (cs := []) (σ' := (9, [some (.ref 100), some (.int r), some (.int x), some (.int f), some (.int q), none], [.int 2, .int 0, .int r, .ref 100], (SS b c), (upI I 100 0 0), J, 0, 0)) rfl trivial ?_
  simp only [ht]
  show Rj _ _ _ _ _ _ (9, [some (.ref 100), some (.int r), some (.int x), some (.int f), some (.int q), none], [.int 2, .int 0, .int r, .ref 100], (SS b c), I, J, 0, 0)
  refine r_callV okX12_radar okX12_isIn [.int r, .int 0, .int 2] [] 100 rfl rfl rfl kkX12_isIn rfl rfl (by decide) rfl rfl rfl (by decide) ⟨Nat.le_refl _, Nat.le_refl _⟩ (Nat.le_of_ble_eq_true rfl) (c_isIn γ r 0 2) (fun v1 S1 I1 J1 hp => ?_)
  obtain ⟨rfl, rfl, rfl, rfl⟩ := hp
  show Rj _ _ _ _ _ _ (12, [some (.ref 100), some (.int r), some (.int x), some (.int f), some (.int q), none], [.int (bi (inB r 0 2))], (SS b c), I, J, 0, 0)
  refine r_ifc okX12_radar rfl (fun (h12 : (bi (inB r 0 2)) = (0 : Int32)) => ?_) (fun (h12 : ¬ (bi (inB r 0 2)) = (0 : Int32)) => ?_)
  · have h12s := bi_0.mp h12
    refine r_run okX12_radar 1 (cs := []) (σ' := (46, [some (.ref 100), some (.int r), some (.int x), some (.int f), some (.int q), none], [.int 0], (SS b c), I, J, 0, 0)) rfl trivial ?_
    refine r_iret okX12_radar rfl rfl (by decide +kernel) (Nat.le_refl _) (Nat.le_refl _) ?_
    refine ⟨?_, rfl, ?_, rfl⟩ <;> simp [radN, radB, bi, *]
  · have h12s := bi_n0.mp h12
    exact absurd (bi_n0.mp h12) (by rw [hr]; decide)
theorem c_Mradar (γ : GE) {b c : Bool} {I : AI} {J : AJ} (hT : I 100 0 = 0) (r x f q : Int32) : Ct γ mX12_radar 1 0 0 [.ref 100, .int r, .int x, .int f, .int q] (SS b c) I J (rI (bi (radB r x f q)) (SS b c) (radN I r x f q) J) := by
  by_cases hr : inB r 0 2 = true
  · obtain ⟨k, hk, rfl⟩ := in_nat hr (n := 2) rfl (by decide)
    exact c_Mradar1 γ hT k (by omega) x f q
  · exact c_Mradar0 γ hT r (by simpa using hr) x f q
theorem hasR_nat {I : AI} {v : Int32} (h : hasR I v = true) : ∃ r, r < 3 ∧ v = nI r := by
  unfold hasR at h
  rw [Bool.and_eq_true] at h
  obtain ⟨k, hk, rfl⟩ := in_nat h.1 (n := 2) rfl (by decide)
  exact ⟨k, by omega, rfl⟩
theorem vin_rc {I : AI} {r x : Int32} (h : hasR I r = true) (hx : cellB x = true) : vp_in ((96 * r) + x) 288 ∧ ((96 * r) + x).toNatClampNeg = 96 * nv r + nv x := by
  obtain ⟨a, ha, rfl⟩ := hasR_nat h
  obtain ⟨y, hy, rfl⟩ := cell_nat hx
  rw [show (96 : Int32) * nI a + nI y = nI (96 * a + y) from mul_add_nI 96 a y]
  exact ⟨vin (by omega) (by decide), by rw [nI_clamp (by omega), nv_nI (by omega), nv_nI (by omega)]⟩
def bliB (I : AI) (r x : Int32) (z : Bool) : Bool := hasR I r && (cellB x && decide (¬ I 109 (96 * nv r + nv x) = bi z))
def bliN (I : AI) (r x : Int32) (z : Bool) : AI := if bliB I r x z then upI I 109 (96 * nv r + nv x) (bi z) else I
theorem c_Mblind (γ : GE) {b c : Bool} {I : AI} {J : AJ} (hT : I 100 0 = 0) (r x : Int32) (z : Bool) : Ct γ mX12_blind 2 0 0 [.ref 100, .int r, .int x, .int (bi z)] (SS b c) I J (rI (bi (bliB I r x z)) (SS b c) (bliN I r x z) J) := by
  have ht := told0 hT
  refine ct_of okX12_blind (L := [some (.ref 100), some (.int r), some (.int x), some (.int (bi z))]) (Nat.le_of_ble_eq_true rfl) rfl ?_
  refine r_run okX12_blind 5 (cs := []) (σ' := (7, [some (.ref 100), some (.int r), some (.int x), some (.int (bi z))], [.int r, .ref 100], (SS b c), (upI I 100 0 0), J, 0, 0)) rfl trivial ?_
  simp only [ht]
  show Rj _ _ _ _ _ _ (7, [some (.ref 100), some (.int r), some (.int x), some (.int (bi z))], [.int r, .ref 100], (SS b c), I, J, 0, 0)
  refine r_callV okX12_blind okX12_hasRadar [.int r] [] 100 rfl rfl rfl kkX12_hasRadar rfl rfl (by decide) rfl rfl rfl (by decide) ⟨Nat.le_refl _, Nat.le_refl _⟩ (Nat.le_of_ble_eq_true rfl) (c_hasRadar γ r) (fun v1 S1 I1 J1 hp => ?_)
  obtain ⟨rfl, rfl, rfl, rfl⟩ := hp
  show Rj _ _ _ _ _ _ (10, [some (.ref 100), some (.int r), some (.int x), some (.int (bi z))], [.int (bi (hasR I r))], (SS b c), I, J, 0, 0)
  refine r_ifc okX12_blind rfl (fun (h10 : (bi (hasR I r)) = (0 : Int32)) => ?_) (fun (h10 : ¬ (bi (hasR I r)) = (0 : Int32)) => ?_)
  · have h10s := bi_0.mp h10
    refine r_run okX12_blind 1 (cs := []) (σ' := (37, [some (.ref 100), some (.int r), some (.int x), some (.int (bi z))], [.int 0], (SS b c), I, J, 0, 0)) rfl trivial ?_
    refine r_iret okX12_blind rfl rfl (by decide +kernel) (Nat.le_refl _) (Nat.le_refl _) ?_
    refine ⟨?_, rfl, ?_, rfl⟩ <;> simp [bliN, bliB, bi_t, bi_f, *]
  · have h10s := bi_n0.mp h10
    refine r_run okX12_blind 2 (cs := []) (σ' := (15, [some (.ref 100), some (.int r), some (.int x), some (.int (bi z))], [.int x, .ref 100], (SS b c), I, J, 0, 0)) rfl trivial ?_
    refine r_callV okX12_blind okX12_isCell [.int x] [] 100 rfl rfl rfl kkX12_isCell rfl rfl (by decide) rfl rfl rfl (by decide) ⟨Nat.le_refl _, Nat.le_refl _⟩ (Nat.le_of_ble_eq_true rfl) (c_isCell γ x) (fun v1 S1 I1 J1 hp => ?_)
    obtain ⟨rfl, rfl, rfl, rfl⟩ := hp
    show Rj _ _ _ _ _ _ (18, [some (.ref 100), some (.int r), some (.int x), some (.int (bi z))], [.int (bi (cellB x))], (SS b c), I, J, 0, 0)
    refine r_ifc okX12_blind rfl (fun (h18 : (bi (cellB x)) = (0 : Int32)) => ?_) (fun (h18 : ¬ (bi (cellB x)) = (0 : Int32)) => ?_)
    · have h18s := bi_0.mp h18
      refine r_run okX12_blind 1 (cs := []) (σ' := (37, [some (.ref 100), some (.int r), some (.int x), some (.int (bi z))], [.int 0], (SS b c), I, J, 0, 0)) rfl trivial ?_
      refine r_iret okX12_blind rfl rfl (by decide +kernel) (Nat.le_refl _) (Nat.le_refl _) ?_
      refine ⟨?_, rfl, ?_, rfl⟩ <;> simp [bliN, bliB, bi_t, bi_f, *]
    · have h18s := bi_n0.mp h18
      refine r_run okX12_blind 9 (cs := [vp_in ((96 * r) + x) 288]) (σ' := (33, [some (.ref 100), some (.int r), some (.int x), some (.int (bi z))], [.int (bi z), .int (I 109 (((96 * r) + x).toNatClampNeg))], (SS b c), I, J, 0, 0)) rfl ⟨(vin_rc h10s h18s).1, trivial⟩ ?_
      simp only [(vin_rc h10s h18s).2]
      show Rj _ _ _ _ _ _ (33, [some (.ref 100), some (.int r), some (.int x), some (.int (bi z))], [.int (bi z), .int (I 109 (96 * nv r + nv x))], (SS b c), I, J, 0, 0)
      refine r_icmp okX12_blind rfl (fun (h33 : ¬ (I 109 (96 * nv r + nv x)) = (bi z)) => ?_) (fun h330 => ?_)
      · refine r_run okX12_blind 10 (cs := [vp_in ((96 * r) + x) 288, bz (bi z)]) (σ' := (51, [some (.ref 100), some (.int r), some (.int x), some (.int (bi z))], [.int 1], (SS b c), (upI I 109 (((96 * r) + x).toNatClampNeg) (bi z)), J, 0, 0)) rfl ⟨(vin_rc h10s h18s).1, (bi_bz z), trivial⟩ ?_
        simp only [(vin_rc h10s h18s).2]
        show Rj _ _ _ _ _ _ (51, [some (.ref 100), some (.int r), some (.int x), some (.int (bi z))], [.int 1], (SS b c), (upI I 109 (96 * nv r + nv x) (bi z)), J, 0, 0)
        refine r_iret okX12_blind rfl rfl (by decide +kernel) (Nat.le_refl _) (Nat.le_refl _) ?_
        refine ⟨?_, rfl, ?_, rfl⟩ <;> simp [bliN, bliB, bi_t, bi_f, *]
      · have h33 : (I 109 (96 * nv r + nv x)) = (bi z) := Classical.not_not.mp h330
        refine r_run okX12_blind 1 (cs := []) (σ' := (37, [some (.ref 100), some (.int r), some (.int x), some (.int (bi z))], [.int 0], (SS b c), I, J, 0, 0)) rfl trivial ?_
        refine r_iret okX12_blind rfl rfl (by decide +kernel) (Nat.le_refl _) (Nat.le_refl _) ?_
        refine ⟨?_, rfl, ?_, rfl⟩ <;> simp [bliN, bliB, bi_t, bi_f, *]
def ofV (I : AI) (x w : Int32) : Int32 := if cellB x = false then -1 else if w = 0 then I 101 (nv x) else if w = 1 then I 102 (nv x) else if w = 2 then I 103 (nv x) else if w = 3 then (if I 104 (nv x) = 0 then 0 else 1) else if w = 4 then seersV I (nv x) else -1
theorem c_seers1 (γ : GE) {b c : Bool} {I : AI} {J : AJ} (hI : MRad I) {x : Int32} (hx : cellB x = true) : Ct γ mX12_seers 2 0 0 [.ref 100, .int x] (SS b c) I J (rI (seersV I (nv x)) (SS b c) I J) := by
  obtain ⟨k, hk, rfl⟩ := cell_nat hx
  rw [nv_nI (by omega)]
  exact c_seers0 γ hI k hk
theorem c_Mof (γ : GE) {b c : Bool} {I : AI} {J : AJ} (hT : I 100 0 = 0) (hI : MRad I) (x w : Int32) : Ct γ mX12_of 3 0 0 [.ref 100, .int x, .int w] (SS b c) I J (rI (ofV I x w) (SS b c) I J) := by
  have ht := told0 hT
  refine ct_of okX12_of (L := [some (.ref 100), some (.int x), some (.int w)]) (Nat.le_of_ble_eq_true rfl) rfl ?_
  refine r_run okX12_of 5 (cs := []) (σ' := (7, [some (.ref 100), some (.int x), some (.int w)], [.int x, .ref 100], (SS b c), (upI I 100 0 0), J, 0, 0)) rfl trivial ?_
  simp only [ht]
  show Rj _ _ _ _ _ _ (7, [some (.ref 100), some (.int x), some (.int w)], [.int x, .ref 100], (SS b c), I, J, 0, 0)
  refine r_callV okX12_of okX12_isCell [.int x] [] 100 rfl rfl rfl kkX12_isCell rfl rfl (by decide) rfl rfl rfl (by decide) ⟨Nat.le_refl _, Nat.le_refl _⟩ (Nat.le_of_ble_eq_true rfl) (c_isCell γ x) (fun v1 S1 I1 J1 hp => ?_)
  obtain ⟨rfl, rfl, rfl, rfl⟩ := hp
  show Rj _ _ _ _ _ _ (10, [some (.ref 100), some (.int x), some (.int w)], [.int (bi (cellB x))], (SS b c), I, J, 0, 0)
  refine r_ifc okX12_of rfl (fun (h10 : ¬ (bi (cellB x)) = (0 : Int32)) => ?_) (fun h100 => ?_)
  · have h10s := bi_n0.mp h10
    refine r_run okX12_of 1 (cs := []) (σ' := (16, [some (.ref 100), some (.int x), some (.int w)], [.int w], (SS b c), I, J, 0, 0)) rfl trivial ?_
    refine r_ifc okX12_of rfl (fun (h16 : ¬ w = (0 : Int32)) => ?_) (fun h160 => ?_)
    · refine r_run okX12_of 2 (cs := []) (σ' := (28, [some (.ref 100), some (.int x), some (.int w)], [.int 1, .int w], (SS b c), I, J, 0, 0)) rfl trivial ?_
      refine r_icmp okX12_of rfl (fun (h28 : ¬ w = (1 : Int32)) => ?_) (fun h280 => ?_)
      · refine r_run okX12_of 2 (cs := []) (σ' := (40, [some (.ref 100), some (.int x), some (.int w)], [.int 2, .int w], (SS b c), I, J, 0, 0)) rfl trivial ?_
        refine r_icmp okX12_of rfl (fun (h40 : ¬ w = (2 : Int32)) => ?_) (fun h400 => ?_)
        · refine r_run okX12_of 2 (cs := []) (σ' := (52, [some (.ref 100), some (.int x), some (.int w)], [.int 3, .int w], (SS b c), I, J, 0, 0)) rfl trivial ?_
          refine r_icmp okX12_of rfl (fun (h52 : ¬ w = (3 : Int32)) => ?_) (fun h520 => ?_)
          · refine r_run okX12_of 2 (cs := []) (σ' := (72, [some (.ref 100), some (.int x), some (.int w)], [.int 4, .int w], (SS b c), I, J, 0, 0)) rfl trivial ?_
            refine r_icmp okX12_of rfl (fun (h72 : ¬ w = (4 : Int32)) => ?_) (fun h720 => ?_)
            · refine r_run okX12_of 1 (cs := []) (σ' := (84, [some (.ref 100), some (.int x), some (.int w)], [.int (-1)], (SS b c), I, J, 0, 0)) rfl trivial ?_
              refine r_iret okX12_of rfl rfl rfl (Nat.le_refl _) (Nat.le_refl _) ?_
              refine ⟨?_, rfl, rfl, rfl⟩
              simp [ofV, nv, *]
            · have h72 : w = (4 : Int32) := Classical.not_not.mp h720
              refine r_run okX12_of 2 (cs := []) (σ' := (77, [some (.ref 100), some (.int x), some (.int w)], [.int x, .ref 100], (SS b c), I, J, 0, 0)) rfl trivial ?_
              refine r_callV okX12_of okX12_seers [.int x] [] 100 rfl rfl rfl kkX12_seers rfl rfl (by decide) rfl rfl rfl (by decide) ⟨Nat.le_refl _, Nat.le_refl _⟩ (Nat.le_of_ble_eq_true rfl) (c_seers1 γ hI h10s) (fun v1 S1 I1 J1 hp => ?_)
              obtain ⟨rfl, rfl, rfl, rfl⟩ := hp
              show Rj _ _ _ _ _ _ (80, [some (.ref 100), some (.int x), some (.int w)], [.int (seersV I (nv x))], (SS b c), I, J, 0, 0)
              refine r_run okX12_of 1 (cs := []) (σ' := (84, [some (.ref 100), some (.int x), some (.int w)], [.int (seersV I (nv x))], (SS b c), I, J, 0, 0)) rfl trivial ?_
              refine r_iret okX12_of rfl rfl rfl (Nat.le_refl _) (Nat.le_refl _) ?_
              refine ⟨?_, rfl, rfl, rfl⟩
              simp [ofV, nv, *]
          · have h52 : w = (3 : Int32) := Classical.not_not.mp h520
            refine r_run okX12_of 4 (cs := [vp_in x 96]) (σ' := (61, [some (.ref 100), some (.int x), some (.int w)], [.int (I 104 x.toNatClampNeg)], (SS b c), I, J, 0, 0)) rfl ⟨(vin_cell h10s), trivial⟩ ?_
            refine r_ifc okX12_of rfl (fun (h61 : (I 104 x.toNatClampNeg) = (0 : Int32)) => ?_) (fun (h61 : ¬ (I 104 x.toNatClampNeg) = (0 : Int32)) => ?_)
            · refine r_run okX12_of 1 (cs := []) (σ' := (69, [some (.ref 100), some (.int x), some (.int w)], [.int 0], (SS b c), I, J, 0, 0)) rfl trivial ?_
              refine r_iret okX12_of rfl rfl rfl (Nat.le_refl _) (Nat.le_refl _) ?_
              refine ⟨?_, rfl, rfl, rfl⟩
              simp [ofV, nv, *]
            · refine r_run okX12_of 2 (cs := []) (σ' := (69, [some (.ref 100), some (.int x), some (.int w)], [.int 1], (SS b c), I, J, 0, 0)) rfl trivial ?_
              refine r_iret okX12_of rfl rfl rfl (Nat.le_refl _) (Nat.le_refl _) ?_
              refine ⟨?_, rfl, rfl, rfl⟩
              simp [ofV, nv, *]
        · have h40 : w = (2 : Int32) := Classical.not_not.mp h400
          refine r_run okX12_of 4 (cs := [vp_in x 96]) (σ' := (49, [some (.ref 100), some (.int x), some (.int w)], [.int (I 103 x.toNatClampNeg)], (SS b c), I, J, 0, 0)) rfl ⟨(vin_cell h10s), trivial⟩ ?_
          refine r_iret okX12_of rfl rfl rfl (Nat.le_refl _) (Nat.le_refl _) ?_
          refine ⟨?_, rfl, rfl, rfl⟩
          simp [ofV, nv, *]
      · have h28 : w = (1 : Int32) := Classical.not_not.mp h280
        refine r_run okX12_of 4 (cs := [vp_in x 96]) (σ' := (37, [some (.ref 100), some (.int x), some (.int w)], [.int (I 102 x.toNatClampNeg)], (SS b c), I, J, 0, 0)) rfl ⟨(vin_cell h10s), trivial⟩ ?_
        refine r_iret okX12_of rfl rfl rfl (Nat.le_refl _) (Nat.le_refl _) ?_
        refine ⟨?_, rfl, rfl, rfl⟩
        simp [ofV, nv, *]
    · have h16 : w = (0 : Int32) := Classical.not_not.mp h160
      refine r_run okX12_of 4 (cs := [vp_in x 96]) (σ' := (25, [some (.ref 100), some (.int x), some (.int w)], [.int (I 101 x.toNatClampNeg)], (SS b c), I, J, 0, 0)) rfl ⟨(vin_cell h10s), trivial⟩ ?_
      refine r_iret okX12_of rfl rfl rfl (Nat.le_refl _) (Nat.le_refl _) ?_
      refine ⟨?_, rfl, rfl, rfl⟩
      simp [ofV, nv, *]
  · have h10 : (bi (cellB x)) = (0 : Int32) := Classical.not_not.mp h100
    have h10s := bi_0.mp h10
    refine r_run okX12_of 1 (cs := []) (σ' := (14, [some (.ref 100), some (.int x), some (.int w)], [.int (-1)], (SS b c), I, J, 0, 0)) rfl trivial ?_
    refine r_iret okX12_of rfl rfl rfl (Nat.le_refl _) (Nat.le_refl _) ?_
    refine ⟨?_, rfl, rfl, rfl⟩
    simp [ofV, nv, *]
