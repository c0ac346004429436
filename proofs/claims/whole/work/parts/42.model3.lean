/-! ===== the reference: land, siren, storm, radar, blind, of ===== -/
theorem told0 {I : AI} (h : I 100 0 = 0) : upI I 100 0 0 = I := by
  funext x y
  simp only [upI]
  split
  · rename_i e; subst e
    split
    · rename_i e; subst e; exact h.symm
    · rfl
  · rfl
theorem vin_cell {v : Int32} (h : cellB v = true) : vp_in v 96 := by
  obtain ⟨k, hk, rfl⟩ := cell_nat h
  exact vin hk (by decide)
def seersV (I : AI) (x : Nat) : Int32 := nI ((if seesB I 0 x then 1 else 0) + (if seesB I 1 x then 2 else 0) + (if seesB I 2 x then 4 else 0))
theorem c_seers0 (γ : GE) {b c : Bool} {I : AI} {J : AJ} (hI : MRad I) (x : Nat) (hx : x < 96) : Ct γ mX12_seers 2 0 0 [.ref 100, .int (nI x)] (SS b c) I J (rI (seersV I x) (SS b c) I J) := by
  refine ct_of okX12_seers (L := [some (.ref 100), some (.int (nI x)), none, none]) (Nat.le_of_ble_eq_true rfl) rfl ?_
  refine r_run okX12_seers 6 (cs := []) (σ' := (6, [some (.ref 100), some (.int (nI x)), some (.int 0), some (.int 0)], [.int 3, .int 0], (SS b c), I, J, 0, 0)) rfl trivial ?_
  refine r_icmp okX12_seers rfl (fun (h6 : (3 : Int32) ≤ (0 : Int32)) => ?_) (fun (h6 : ¬ (3 : Int32) ≤ (0 : Int32)) => ?_)
  · exact absurd h6 (by decide)
  · refine r_run okX12_seers 3 (cs := []) (σ' := (12, [some (.ref 100), some (.int (nI x)), some (.int 0), some (.int 0)], [.int (nI x), .int 0, .ref 100], (SS b c), I, J, 0, 0)) rfl trivial ?_
    refine r_callV okX12_seers okX12_sees [.int 0, .int (nI x)] [] 100 rfl rfl rfl kkX12_sees rfl rfl (by decide) rfl rfl rfl (by decide) ⟨Nat.le_refl _, Nat.le_refl _⟩ (Nat.le_of_ble_eq_true rfl) (c_sees γ (r := 0) (x := x) hI (by decide) hx (by decide) rfl) (fun v1 S1 I1 J1 hp => ?_)
    obtain ⟨rfl, rfl, rfl, rfl⟩ := hp
    show Rj _ _ _ _ _ _ (15, [some (.ref 100), some (.int (nI x)), some (.int 0), some (.int 0)], [.int (bi (seesB I 0 x))], (SS b c), I, J, 0, 0)
    refine r_ifc okX12_seers rfl (fun (h15 : (bi (seesB I 0 x)) = (0 : Int32)) => ?_) (fun (h15 : ¬ (bi (seesB I 0 x)) = (0 : Int32)) => ?_)
    · have h15s := bi_0.mp h15
      refine r_run okX12_seers 4 (cs := []) (σ' := (6, [some (.ref 100), some (.int (nI x)), some (.int 0), some (.int (0 + 1))], [.int 3, .int (0 + 1)], (SS b c), I, J, 0, 0)) rfl trivial ?_
      refine r_icmp okX12_seers rfl (fun (h6_1 : (3 : Int32) ≤ (0 + 1)) => ?_) (fun (h6_1 : ¬ (3 : Int32) ≤ (0 + 1)) => ?_)
      · exact absurd h6_1 (by decide)
      · refine r_run okX12_seers 3 (cs := []) (σ' := (12, [some (.ref 100), some (.int (nI x)), some (.int 0), some (.int (0 + 1))], [.int (nI x), .int (0 + 1), .ref 100], (SS b c), I, J, 0, 0)) rfl trivial ?_
        refine r_callV okX12_seers okX12_sees [.int (0 + 1), .int (nI x)] [] 100 rfl rfl rfl kkX12_sees rfl rfl (by decide) rfl rfl rfl (by decide) ⟨Nat.le_refl _, Nat.le_refl _⟩ (Nat.le_of_ble_eq_true rfl) (c_sees γ (r := 1) (x := x) hI (by decide) hx (by decide) rfl) (fun v1 S1 I1 J1 hp => ?_)
        obtain ⟨rfl, rfl, rfl, rfl⟩ := hp
        show Rj _ _ _ _ _ _ (15, [some (.ref 100), some (.int (nI x)), some (.int 0), some (.int (0 + 1))], [.int (bi (seesB I 1 x))], (SS b c), I, J, 0, 0)
        refine r_ifc okX12_seers rfl (fun (h15_1 : (bi (seesB I 1 x)) = (0 : Int32)) => ?_) (fun (h15_1 : ¬ (bi (seesB I 1 x)) = (0 : Int32)) => ?_)
        · have h15_1s := bi_0.mp h15_1
          refine r_run okX12_seers 4 (cs := []) (σ' := (6, [some (.ref 100), some (.int (nI x)), some (.int 0), some (.int ((0 + 1) + 1))], [.int 3, .int ((0 + 1) + 1)], (SS b c), I, J, 0, 0)) rfl trivial ?_
          refine r_icmp okX12_seers rfl (fun (h6_2 : (3 : Int32) ≤ ((0 + 1) + 1)) => ?_) (fun (h6_2 : ¬ (3 : Int32) ≤ ((0 + 1) + 1)) => ?_)
          · exact absurd h6_2 (by decide)
          · refine r_run okX12_seers 3 (cs := []) (σ' := (12, [some (.ref 100), some (.int (nI x)), some (.int 0), some (.int ((0 + 1) + 1))], [.int (nI x), .int ((0 + 1) + 1), .ref 100], (SS b c), I, J, 0, 0)) rfl trivial ?_
            refine r_callV okX12_seers okX12_sees [.int ((0 + 1) + 1), .int (nI x)] [] 100 rfl rfl rfl kkX12_sees rfl rfl (by decide) rfl rfl rfl (by decide) ⟨Nat.le_refl _, Nat.le_refl _⟩ (Nat.le_of_ble_eq_true rfl) (c_sees γ (r := 2) (x := x) hI (by decide) hx (by decide) rfl) (fun v1 S1 I1 J1 hp => ?_)
            obtain ⟨rfl, rfl, rfl, rfl⟩ := hp
            show Rj _ _ _ _ _ _ (15, [some (.ref 100), some (.int (nI x)), some (.int 0), some (.int ((0 + 1) + 1))], [.int (bi (seesB I 2 x))], (SS b c), I, J, 0, 0)
            refine r_ifc okX12_seers rfl (fun (h15_2 : (bi (seesB I 2 x)) = (0 : Int32)) => ?_) (fun (h15_2 : ¬ (bi (seesB I 2 x)) = (0 : Int32)) => ?_)
            · have h15_2s := bi_0.mp h15_2
              refine r_run okX12_seers 4 (cs := []) (σ' := (6, [some (.ref 100), some (.int (nI x)), some (.int 0), some (.int (((0 + 1) + 1) + 1))], [.int 3, .int (((0 + 1) + 1) + 1)], (SS b c), I, J, 0, 0)) rfl trivial ?_
              refine r_icmp okX12_seers rfl (fun (h6_3 : (3 : Int32) ≤ (((0 + 1) + 1) + 1)) => ?_) (fun (h6_3 : ¬ (3 : Int32) ≤ (((0 + 1) + 1) + 1)) => ?_)
              · refine r_run okX12_seers 1 (cs := []) (σ' := (31, [some (.ref 100), some (.int (nI x)), some (.int 0), some (.int (((0 + 1) + 1) + 1))], [.int 0], (SS b c), I, J, 0, 0)) rfl trivial ?_
                refine r_iret okX12_seers rfl rfl rfl (Nat.le_refl _) (Nat.le_refl _) ?_
                refine ⟨?_, rfl, rfl, rfl⟩
                simp only [seersV, *]
                decide +kernel
              · exact absurd h6_3 (by decide)
            · have h15_2s := bi_n0.mp h15_2
              refine r_run okX12_seers 10 (cs := []) (σ' := (6, [some (.ref 100), some (.int (nI x)), some (.int (0 ||| ((1 : Int32) <<< ((((0 + 1) + 1) : Int32) &&& 31)))), some (.int (((0 + 1) + 1) + 1))], [.int 3, .int (((0 + 1) + 1) + 1)], (SS b c), I, J, 0, 0)) rfl trivial ?_
              refine r_icmp okX12_seers rfl (fun (h6_4 : (3 : Int32) ≤ (((0 + 1) + 1) + 1)) => ?_) (fun (h6_4 : ¬ (3 : Int32) ≤ (((0 + 1) + 1) + 1)) => ?_)
              · refine r_run okX12_seers 1 (cs := []) (σ' := (31, [some (.ref 100), some (.int (nI x)), some (.int (0 ||| ((1 : Int32) <<< ((((0 + 1) + 1) : Int32) &&& 31)))), some (.int (((0 + 1) + 1) + 1))], [.int (0 ||| ((1 : Int32) <<< ((((0 + 1) + 1) : Int32) &&& 31)))], (SS b c), I, J, 0, 0)) rfl trivial ?_
                refine r_iret okX12_seers rfl rfl rfl (Nat.le_refl _) (Nat.le_refl _) ?_
                refine ⟨?_, rfl, rfl, rfl⟩
                simp only [seersV, *]
                decide +kernel
              · exact absurd h6_4 (by decide)
        · have h15_1s := bi_n0.mp h15_1
          refine r_run okX12_seers 10 (cs := []) (σ' := (6, [some (.ref 100), some (.int (nI x)), some (.int (0 ||| ((1 : Int32) <<< (((0 + 1) : Int32) &&& 31)))), some (.int ((0 + 1) + 1))], [.int 3, .int ((0 + 1) + 1)], (SS b c), I, J, 0, 0)) rfl trivial ?_
          refine r_icmp okX12_seers rfl (fun (h6_5 : (3 : Int32) ≤ ((0 + 1) + 1)) => ?_) (fun (h6_5 : ¬ (3 : Int32) ≤ ((0 + 1) + 1)) => ?_)
          · exact absurd h6_5 (by decide)
          · refine r_run okX12_seers 3 (cs := []) (σ' := (12, [some (.ref 100), some (.int (nI x)), some (.int (0 ||| ((1 : Int32) <<< (((0 + 1) : Int32) &&& 31)))), some (.int ((0 + 1) + 1))], [.int (nI x), .int ((0 + 1) + 1), .ref 100], (SS b c), I, J, 0, 0)) rfl trivial ?_
            refine r_callV okX12_seers okX12_sees [.int ((0 + 1) + 1), .int (nI x)] [] 100 rfl rfl rfl kkX12_sees rfl rfl (by decide) rfl rfl rfl (by decide) ⟨Nat.le_refl _, Nat.le_refl _⟩ (Nat.le_of_ble_eq_true rfl) (c_sees γ (r := 2) (x := x) hI (by decide) hx (by decide) rfl) (fun v1 S1 I1 J1 hp => ?_)
            obtain ⟨rfl, rfl, rfl, rfl⟩ := hp
            show Rj _ _ _ _ _ _ (15, [some (.ref 100), some (.int (nI x)), some (.int (0 ||| ((1 : Int32) <<< (((0 + 1) : Int32) &&& 31)))), some (.int ((0 + 1) + 1))], [.int (bi (seesB I 2 x))], (SS b c), I, J, 0, 0)
            refine r_ifc okX12_seers rfl (fun (h15_3 : (bi (seesB I 2 x)) = (0 : Int32)) => ?_) (fun (h15_3 : ¬ (bi (seesB I 2 x)) = (0 : Int32)) => ?_)
            · have h15_3s := bi_0.mp h15_3
              refine r_run okX12_seers 4 (cs := []) (σ' := (6, [some (.ref 100), some (.int (nI x)), some (.int (0 ||| ((1 : Int32) <<< (((0 + 1) : Int32) &&& 31)))), some (.int (((0 + 1) + 1) + 1))], [.int 3, .int (((0 + 1) + 1) + 1)], (SS b c), I, J, 0, 0)) rfl trivial ?_
              refine r_icmp okX12_seers rfl (fun (h6_6 : (3 : Int32) ≤ (((0 + 1) + 1) + 1)) => ?_) (fun (h6_6 : ¬ (3 : Int32) ≤ (((0 + 1) + 1) + 1)) => ?_)
              · refine r_run okX12_seers 1 (cs := []) (σ' := (31, [some (.ref 100), some (.int (nI x)), some (.int (0 ||| ((1 : Int32) <<< (((0 + 1) : Int32) &&& 31)))), some (.int (((0 + 1) + 1) + 1))], [.int (0 ||| ((1 : Int32) <<< (((0 + 1) : Int32) &&& 31)))], (SS b c), I, J, 0, 0)) rfl trivial ?_
                refine r_iret okX12_seers rfl rfl rfl (Nat.le_refl _) (Nat.le_refl _) ?_
                refine ⟨?_, rfl, rfl, rfl⟩
                simp only [seersV, *]
                decide +kernel
              · exact absurd h6_6 (by decide)
            · have h15_3s := bi_n0.mp h15_3
              refine r_run okX12_seers 10 (cs := []) (σ' := (6, [some (.ref 100), some (.int (nI x)), some (.int ((0 ||| ((1 : Int32) <<< (((0 + 1) : Int32) &&& 31))) ||| ((1 : Int32) <<< ((((0 + 1) + 1) : Int32) &&& 31)))), some (.int (((0 + 1) + 1) + 1))], [.int 3, .int (((0 + 1) + 1) + 1)], (SS b c), I, J, 0, 0)) rfl trivial ?_
              refine r_icmp okX12_seers rfl (fun (h6_7 : (3 : Int32) ≤ (((0 + 1) + 1) + 1)) => ?_) (fun (h6_7 : ¬ (3 : Int32) ≤ (((0 + 1) + 1) + 1)) => ?_)
              · refine r_run okX12_seers 1 (cs := []) (σ' := (31, [some (.ref 100), some (.int (nI x)), some (.int ((0 ||| ((1 : Int32) <<< (((0 + 1) : Int32) &&& 31))) ||| ((1 : Int32) <<< ((((0 + 1) + 1) : Int32) &&& 31)))), some (.int (((0 + 1) + 1) + 1))], [.int ((0 ||| ((1 : Int32) <<< (((0 + 1) : Int32) &&& 31))) ||| ((1 : Int32) <<< ((((0 + 1) + 1) : Int32) &&& 31)))], (SS b c), I, J, 0, 0)) rfl trivial ?_
                refine r_iret okX12_seers rfl rfl rfl (Nat.le_refl _) (Nat.le_refl _) ?_
                refine ⟨?_, rfl, rfl, rfl⟩
                simp only [seersV, *]
                decide +kernel
              · exact absurd h6_7 (by decide)
    · have h15s := bi_n0.mp h15
      refine r_run okX12_seers 10 (cs := []) (σ' := (6, [some (.ref 100), some (.int (nI x)), some (.int (0 ||| ((1 : Int32) <<< ((0 : Int32) &&& 31)))), some (.int (0 + 1))], [.int 3, .int (0 + 1)], (SS b c), I, J, 0, 0)) rfl trivial ?_
      refine r_icmp okX12_seers rfl (fun (h6_8 : (3 : Int32) ≤ (0 + 1)) => ?_) (fun (h6_8 : ¬ (3 : Int32) ≤ (0 + 1)) => ?_)
      · exact absurd h6_8 (by decide)
      · refine r_run okX12_seers 3 (cs := []) (σ' := (12, [some (.ref 100), some (.int (nI x)), some (.int (0 ||| ((1 : Int32) <<< ((0 : Int32) &&& 31)))), some (.int (0 + 1))], [.int (nI x), .int (0 + 1), .ref 100], (SS b c), I, J, 0, 0)) rfl trivial ?_
        refine r_callV okX12_seers okX12_sees [.int (0 + 1), .int (nI x)] [] 100 rfl rfl rfl kkX12_sees rfl rfl (by decide) rfl rfl rfl (by decide) ⟨Nat.le_refl _, Nat.le_refl _⟩ (Nat.le_of_ble_eq_true rfl) (c_sees γ (r := 1) (x := x) hI (by decide) hx (by decide) rfl) (fun v1 S1 I1 J1 hp => ?_)
        obtain ⟨rfl, rfl, rfl, rfl⟩ := hp
        show Rj _ _ _ _ _ _ (15, [some (.ref 100), some (.int (nI x)), some (.int (0 ||| ((1 : Int32) <<< ((0 : Int32) &&& 31)))), some (.int (0 + 1))], [.int (bi (seesB I 1 x))], (SS b c), I, J, 0, 0)
        refine r_ifc okX12_seers rfl (fun (h15_4 : (bi (seesB I 1 x)) = (0 : Int32)) => ?_) (fun (h15_4 : ¬ (bi (seesB I 1 x)) = (0 : Int32)) => ?_)
        · have h15_4s := bi_0.mp h15_4
          refine r_run okX12_seers 4 (cs := []) (σ' := (6, [some (.ref 100), some (.int (nI x)), some (.int (0 ||| ((1 : Int32) <<< ((0 : Int32) &&& 31)))), some (.int ((0 + 1) + 1))], [.int 3, .int ((0 + 1) + 1)], (SS b c), I, J, 0, 0)) rfl trivial ?_
          refine r_icmp okX12_seers rfl (fun (h6_9 : (3 : Int32) ≤ ((0 + 1) + 1)) => ?_) (fun (h6_9 : ¬ (3 : Int32) ≤ ((0 + 1) + 1)) => ?_)
          · exact absurd h6_9 (by decide)
          · refine r_run okX12_seers 3 (cs := []) (σ' := (12, [some (.ref 100), some (.int (nI x)), some (.int (0 ||| ((1 : Int32) <<< ((0 : Int32) &&& 31)))), some (.int ((0 + 1) + 1))], [.int (nI x), .int ((0 + 1) + 1), .ref 100], (SS b c), I, J, 0, 0)) rfl trivial ?_
            refine r_callV okX12_seers okX12_sees [.int ((0 + 1) + 1), .int (nI x)] [] 100 rfl rfl rfl kkX12_sees rfl rfl (by decide) rfl rfl rfl (by decide) ⟨Nat.le_refl _, Nat.le_refl _⟩ (Nat.le_of_ble_eq_true rfl) (c_sees γ (r := 2) (x := x) hI (by decide) hx (by decide) rfl) (fun v1 S1 I1 J1 hp => ?_)
            obtain ⟨rfl, rfl, rfl, rfl⟩ := hp
            show Rj _ _ _ _ _ _ (15, [some (.ref 100), some (.int (nI x)), some (.int (0 ||| ((1 : Int32) <<< ((0 : Int32) &&& 31)))), some (.int ((0 + 1) + 1))], [.int (bi (seesB I 2 x))], (SS b c), I, J, 0, 0)
            refine r_ifc okX12_seers rfl (fun (h15_5 : (bi (seesB I 2 x)) = (0 : Int32)) => ?_) (fun (h15_5 : ¬ (bi (seesB I 2 x)) = (0 : Int32)) => ?_)
            · have h15_5s := bi_0.mp h15_5
              refine r_run okX12_seers 4 (cs := []) (σ' := (6, [some (.ref 100), some (.int (nI x)), some (.int (0 ||| ((1 : Int32) <<< ((0 : Int32) &&& 31)))), some (.int (((0 + 1) + 1) + 1))], [.int 3, .int (((0 + 1) + 1) + 1)], (SS b c), I, J, 0, 0)) rfl trivial ?_
              refine r_icmp okX12_seers rfl (fun (h6_10 : (3 : Int32) ≤ (((0 + 1) + 1) + 1)) => ?_) (fun (h6_10 : ¬ (3 : Int32) ≤ (((0 + 1) + 1) + 1)) => ?_)
              · refine r_run okX12_seers 1 (cs := []) (σ' := (31, [some (.ref 100), some (.int (nI x)), some (.int (0 ||| ((1 : Int32) <<< ((0 : Int32) &&& 31)))), some (.int (((0 + 1) + 1) + 1))], [.int (0 ||| ((1 : Int32) <<< ((0 : Int32) &&& 31)))], (SS b c), I, J, 0, 0)) rfl trivial ?_
                refine r_iret okX12_seers rfl rfl rfl (Nat.le_refl _) (Nat.le_refl _) ?_
                refine ⟨?_, rfl, rfl, rfl⟩
                simp only [seersV, *]
                decide +kernel
              · exact absurd h6_10 (by decide)
            · have h15_5s := bi_n0.mp h15_5
              refine r_run okX12_seers 10 (cs := []) (σ' := (6, [some (.ref 100), some (.int (nI x)), some (.int ((0 ||| ((1 : Int32) <<< ((0 : Int32) &&& 31))) ||| ((1 : Int32) <<< ((((0 + 1) + 1) : Int32) &&& 31)))), some (.int (((0 + 1) + 1) + 1))], [.int 3, .int (((0 + 1) + 1) + 1)], (SS b c), I, J, 0, 0)) rfl trivial ?_
              refine r_icmp okX12_seers rfl (fun (h6_11 : (3 : Int32) ≤ (((0 + 1) + 1) + 1)) => ?_) (fun (h6_11 : ¬ (3 : Int32) ≤ (((0 + 1) + 1) + 1)) => ?_)
              · refine r_run okX12_seers 1 (cs := []) (σ' := (31, [some (.ref 100), some (.int (nI x)), some (.int ((0 ||| ((1 : Int32) <<< ((0 : Int32) &&& 31))) ||| ((1 : Int32) <<< ((((0 + 1) + 1) : Int32) &&& 31)))), some (.int (((0 + 1) + 1) + 1))], [.int ((0 ||| ((1 : Int32) <<< ((0 : Int32) &&& 31))) ||| ((1 : Int32) <<< ((((0 + 1) + 1) : Int32) &&& 31)))], (SS b c), I, J, 0, 0)) rfl trivial ?_
                refine r_iret okX12_seers rfl rfl rfl (Nat.le_refl _) (Nat.le_refl _) ?_
                refine ⟨?_, rfl, rfl, rfl⟩
                simp only [seersV, *]
                decide +kernel
              · exact absurd h6_11 (by decide)
        · have h15_4s := bi_n0.mp h15_4
          refine r_run okX12_seers 10 (cs := []) (σ' := (6, [some (.ref 100), some (.int (nI x)), some (.int ((0 ||| ((1 : Int32) <<< ((0 : Int32) &&& 31))) ||| ((1 : Int32) <<< (((0 + 1) : Int32) &&& 31)))), some (.int ((0 + 1) + 1))], [.int 3, .int ((0 + 1) + 1)], (SS b c), I, J, 0, 0)) rfl trivial ?_
          refine r_icmp okX12_seers rfl (fun (h6_12 : (3 : Int32) ≤ ((0 + 1) + 1)) => ?_) (fun (h6_12 : ¬ (3 : Int32) ≤ ((0 + 1) + 1)) => ?_)
          · exact absurd h6_12 (by decide)
          · refine r_run okX12_seers 3 (cs := []) (σ' := (12, [some (.ref 100), some (.int (nI x)), some (.int ((0 ||| ((1 : Int32) <<< ((0 : Int32) &&& 31))) ||| ((1 : Int32) <<< (((0 + 1) : Int32) &&& 31)))), some (.int ((0 + 1) + 1))], [.int (nI x), .int ((0 + 1) + 1), .ref 100], (SS b c), I, J, 0, 0)) rfl trivial ?_
            refine r_callV okX12_seers okX12_sees [.int ((0 + 1) + 1), .int (nI x)] [] 100 rfl rfl rfl kkX12_sees rfl rfl (by decide) rfl rfl rfl (by decide) ⟨Nat.le_refl _, Nat.le_refl _⟩ (Nat.le_of_ble_eq_true rfl) (c_sees γ (r := 2) (x := x) hI (by decide) hx (by decide) rfl) (fun v1 S1 I1 J1 hp => ?_)
            obtain ⟨rfl, rfl, rfl, rfl⟩ := hp
            show Rj _ _ _ _ _ _ (15, [some (.ref 100), some (.int (nI x)), some (.int ((0 ||| ((1 : Int32) <<< ((0 : Int32) &&& 31))) ||| ((1 : Int32) <<< (((0 + 1) : Int32) &&& 31)))), some (.int ((0 + 1) + 1))], [.int (bi (seesB I 2 x))], (SS b c), I, J, 0, 0)
            refine r_ifc okX12_seers rfl (fun (h15_6 : (bi (seesB I 2 x)) = (0 : Int32)) => ?_) (fun (h15_6 : ¬ (bi (seesB I 2 x)) = (0 : Int32)) => ?_)
            · have h15_6s := bi_0.mp h15_6
              refine r_run okX12_seers 4 (cs := []) (σ' := (6, [some (.ref 100), some (.int (nI x)), some (.int ((0 ||| ((1 : Int32) <<< ((0 : Int32) &&& 31))) ||| ((1 : Int32) <<< (((0 + 1) : Int32) &&& 31)))), some (.int (((0 + 1) + 1) + 1))], [.int 3, .int (((0 + 1) + 1) + 1)], (SS b c), I, J, 0, 0)) rfl trivial ?_
              refine r_icmp okX12_seers rfl (fun (h6_13 : (3 : Int32) ≤ (((0 + 1) + 1) + 1)) => ?_) (fun (h6_13 : ¬ (3 : Int32) ≤ (((0 + 1) + 1) + 1)) => ?_)
              · refine r_run okX12_seers 1 (cs := []) (σ' := (31, [some (.ref 100), some (.int (nI x)), some (.int ((0 ||| ((1 : Int32) <<< ((0 : Int32) &&& 31))) ||| ((1 : Int32) <<< (((0 + 1) : Int32) &&& 31)))), some (.int (((0 + 1) + 1) + 1))], [.int ((0 ||| ((1 : Int32) <<< ((0 : Int32) &&& 31))) ||| ((1 : Int32) <<< (((0 + 1) : Int32) &&& 31)))], (SS b c), I, J, 0, 0)) rfl trivial ?_
                refine r_iret okX12_seers rfl rfl rfl (Nat.le_refl _) (Nat.le_refl _) ?_
                refine ⟨?_, rfl, rfl, rfl⟩
                simp only [seersV, *]
                decide +kernel
              · exact absurd h6_13 (by decide)
            · have h15_6s := bi_n0.mp h15_6
              refine r_run okX12_seers 10 (cs := []) (σ' := (6, [some (.ref 100), some (.int (nI x)), some (.int (((0 ||| ((1 : Int32) <<< ((0 : Int32) &&& 31))) ||| ((1 : Int32) <<< (((0 + 1) : Int32) &&& 31))) ||| ((1 : Int32) <<< ((((0 + 1) + 1) : Int32) &&& 31)))), some (.int (((0 + 1) + 1) + 1))], [.int 3, .int (((0 + 1) + 1) + 1)], (SS b c), I, J, 0, 0)) rfl trivial ?_
              refine r_icmp okX12_seers rfl (fun (h6_14 : (3 : Int32) ≤ (((0 + 1) + 1) + 1)) => ?_) (fun (h6_14 : ¬ (3 : Int32) ≤ (((0 + 1) + 1) + 1)) => ?_)
              · refine r_run okX12_seers 1 (cs := []) (σ' := (31, [some (.ref 100), some (.int (nI x)), some (.int (((0 ||| ((1 : Int32) <<< ((0 : Int32) &&& 31))) ||| ((1 : Int32) <<< (((0 + 1) : Int32) &&& 31))) ||| ((1 : Int32) <<< ((((0 + 1) + 1) : Int32) &&& 31)))), some (.int (((0 + 1) + 1) + 1))], [.int (((0 ||| ((1 : Int32) <<< ((0 : Int32) &&& 31))) ||| ((1 : Int32) <<< (((0 + 1) : Int32) &&& 31))) ||| ((1 : Int32) <<< ((((0 + 1) + 1) : Int32) &&& 31)))], (SS b c), I, J, 0, 0)) rfl trivial ?_
                refine r_iret okX12_seers rfl rfl rfl (Nat.le_refl _) (Nat.le_refl _) ?_
                refine ⟨?_, rfl, rfl, rfl⟩
                simp only [seersV, *]
                decide +kernel
              · exact absurd h6_14 (by decide)
def landB (x y n s : Int32) : Bool := cellB x && (ctyB y && (inB n 0 999 && inB s 0 30))
def landN (I : AI) (x y n s : Int32) : AI := if landB x y n s then upI (upI (upI I 101 (nv x) y) 102 (nv x) n) 103 (nv x) s else I
theorem c_Mland (γ : GE) {b c : Bool} {I : AI} {J : AJ} (hT : I 100 0 = 0) (x y n s : Int32) : Ct γ mX12_land 1 0 0 [.ref 100, .int x, .int y, .int n, .int s] (SS b c) I J (rI (bi (landB x y n s)) (SS b c) (landN I x y n s) J) := by
  have ht := told0 hT
  refine ct_of okX12_land (L := [some (.ref 100), some (.int x), some (.int y), some (.int n), some (.int s)]) (Nat.le_of_ble_eq_true rfl) rfl ?_
  refine r_run okX12_land 5 (cs := []) (σ' := (7, [some (.ref 100), some (.int x), some (.int y), some (.int n), some (.int s)], [.int x, .ref 100], (SS b c), (upI I 100 0 0), J, 0, 0)) rfl trivial ?_
  simp only [ht]
  show Rj _ _ _ _ _ _ (7, [some (.ref 100), some (.int x), some (.int y), some (.int n), some (.int s)], [.int x, .ref 100], (SS b c), I, J, 0, 0)
  refine r_callV okX12_land okX12_isCell [.int x] [] 100 rfl rfl rfl kkX12_isCell rfl rfl (by decide) rfl rfl rfl (by decide) ⟨Nat.le_refl _, Nat.le_refl _⟩ (Nat.le_of_ble_eq_true rfl) (c_isCell γ x) (fun v1 S1 I1 J1 hp => ?_)
  obtain ⟨rfl, rfl, rfl, rfl⟩ := hp
  show Rj _ _ _ _ _ _ (10, [some (.ref 100), some (.int x), some (.int y), some (.int n), some (.int s)], [.int (bi (cellB x))], (SS b c), I, J, 0, 0)
  refine r_ifc okX12_land rfl (fun (h10 : (bi (cellB x)) = (0 : Int32)) => ?_) (fun (h10 : ¬ (bi (cellB x)) = (0 : Int32)) => ?_)
  · have h10s := bi_0.mp h10
    refine r_run okX12_land 1 (cs := []) (σ' := (46, [some (.ref 100), some (.int x), some (.int y), some (.int n), some (.int s)], [.int 0], (SS b c), I, J, 0, 0)) rfl trivial ?_
    refine r_iret okX12_land rfl rfl (by decide +kernel) (Nat.le_refl _) (Nat.le_refl _) ?_
    refine ⟨?_, rfl, ?_, rfl⟩ <;> simp [landN, landB, bi, nv, *]
  · have h10s := bi_n0.mp h10
    refine r_run okX12_land 2 (cs := []) (σ' := (15, [some (.ref 100), some (.int x), some (.int y), some (.int n), some (.int s)], [.int y, .ref 100], (SS b c), I, J, 0, 0)) rfl trivial ?_
    refine r_callV okX12_land okX12_isCounty [.int y] [] 100 rfl rfl rfl kkX12_isCounty rfl rfl (by decide) rfl rfl rfl (by decide) ⟨Nat.le_refl _, Nat.le_refl _⟩ (Nat.le_of_ble_eq_true rfl) (c_isCounty γ y) (fun v1 S1 I1 J1 hp => ?_)
    obtain ⟨rfl, rfl, rfl, rfl⟩ := hp
    show Rj _ _ _ _ _ _ (18, [some (.ref 100), some (.int x), some (.int y), some (.int n), some (.int s)], [.int (bi (ctyB y))], (SS b c), I, J, 0, 0)
    refine r_ifc okX12_land rfl (fun (h18 : (bi (ctyB y)) = (0 : Int32)) => ?_) (fun (h18 : ¬ (bi (ctyB y)) = (0 : Int32)) => ?_)
    · have h18s := bi_0.mp h18
      refine r_run okX12_land 1 (cs := []) (σ' := (46, [some (.ref 100), some (.int x), some (.int y), some (.int n), some (.int s)], [.int 0], (SS b c), I, J, 0, 0)) rfl trivial ?_
      refine r_iret okX12_land rfl rfl (by decide +kernel) (Nat.le_refl _) (Nat.le_refl _) ?_
      refine ⟨?_, rfl, ?_, rfl⟩ <;> simp [landN, landB, bi, nv, *]
    · have h18s := bi_n0.mp h18
      refine r_run okX12_land 4 (cs := []) (σ' := (27, [some (.ref 100), some (.int x), some (.int y), some (.int n), some (.int s)], [.int 999, .int 0, .int n, .ref 100], (SS b c), I, J, 0, 0)) rfl trivial ?_
      refine r_callV okX12_land okX12_isIn [.int n, .int 0, .int 999] [] 100 rfl rfl rfl kkX12_isIn rfl rfl (by decide) rfl rfl rfl (by decide) ⟨Nat.le_refl _, Nat.le_refl _⟩ (Nat.le_of_ble_eq_true rfl) (c_isIn γ n 0 999) (fun v1 S1 I1 J1 hp => ?_)
      obtain ⟨rfl, rfl, rfl, rfl⟩ := hp
      show Rj _ _ _ _ _ _ (30, [some (.ref 100), some (.int x), some (.int y), some (.int n), some (.int s)], [.int (bi (inB n 0 999))], (SS b c), I, J, 0, 0)
      refine r_ifc okX12_land rfl (fun (h30 : (bi (inB n 0 999)) = (0 : Int32)) => ?_) (fun (h30 : ¬ (bi (inB n 0 999)) = (0 : Int32)) => ?_)
      · have h30s := bi_0.mp h30
        refine r_run okX12_land 1 (cs := []) (σ' := (46, [some (.ref 100), some (.int x), some (.int y), some (.int n), some (.int s)], [.int 0], (SS b c), I, J, 0, 0)) rfl trivial ?_
        refine r_iret okX12_land rfl rfl (by decide +kernel) (Nat.le_refl _) (Nat.le_refl _) ?_
        refine ⟨?_, rfl, ?_, rfl⟩ <;> simp [landN, landB, bi, nv, *]
      · have h30s := bi_n0.mp h30
        refine r_run okX12_land 4 (cs := []) (σ' := (39, [some (.ref 100), some (.int x), some (.int y), some (.int n), some (.int s)], [.int 30, .int 0, .int s, .ref 100], (SS b c), I, J, 0, 0)) rfl trivial ?_
        refine r_callV okX12_land okX12_isIn [.int s, .int 0, .int 30] [] 100 rfl rfl rfl kkX12_isIn rfl rfl (by decide) rfl rfl rfl (by decide) ⟨Nat.le_refl _, Nat.le_refl _⟩ (Nat.le_of_ble_eq_true rfl) (c_isIn γ s 0 30) (fun v1 S1 I1 J1 hp => ?_)
        obtain ⟨rfl, rfl, rfl, rfl⟩ := hp
        show Rj _ _ _ _ _ _ (42, [some (.ref 100), some (.int x), some (.int y), some (.int n), some (.int s)], [.int (bi (inB s 0 30))], (SS b c), I, J, 0, 0)
        refine r_ifc okX12_land rfl (fun (h42 : ¬ (bi (inB s 0 30)) = (0 : Int32)) => ?_) (fun h420 => ?_)
        · have h42s := bi_n0.mp h42
          refine r_run okX12_land 16 (cs := [vp_in x 96, vp_in x 96, vp_in x 96]) (σ' := (70, [some (.ref 100), some (.int x), some (.int y), some (.int n), some (.int s)], [.int 1], (SS b c), (upI (upI (upI I 101 x.toNatClampNeg y) 102 x.toNatClampNeg n) 103 x.toNatClampNeg s), J, 0, 0)) rfl ⟨(vin_cell (by assumption)), (vin_cell (by assumption)), (vin_cell (by assumption)), trivial⟩ ?_
          refine r_iret okX12_land rfl rfl (by decide +kernel) (Nat.le_refl _) (Nat.le_refl _) ?_
          refine ⟨?_, rfl, ?_, rfl⟩ <;> simp [landN, landB, bi, nv, *]
        · have h42 : (bi (inB s 0 30)) = (0 : Int32) := Classical.not_not.mp h420
          have h42s := bi_0.mp h42
          refine r_run okX12_land 1 (cs := []) (σ' := (46, [some (.ref 100), some (.int x), some (.int y), some (.int n), some (.int s)], [.int 0], (SS b c), I, J, 0, 0)) rfl trivial ?_
          refine r_iret okX12_land rfl rfl (by decide +kernel) (Nat.le_refl _) (Nat.le_refl _) ?_
          refine ⟨?_, rfl, ?_, rfl⟩ <;> simp [landN, landB, bi, nv, *]
def sirN (I : AI) (x : Int32) (z : Bool) : AI := if cellB x then upI I 104 (nv x) (bi z) else I
theorem c_Msiren (γ : GE) {b c : Bool} {I : AI} {J : AJ} (hT : I 100 0 = 0) (x : Int32) (z : Bool) : Ct γ mX12_siren 1 0 0 [.ref 100, .int x, .int (bi z)] (SS b c) I J (rI (bi (cellB x)) (SS b c) (sirN I x z) J) := by
  have ht := told0 hT
  refine ct_of okX12_siren (L := [some (.ref 100), some (.int x), some (.int (bi z))]) (Nat.le_of_ble_eq_true rfl) rfl ?_
  refine r_run okX12_siren 5 (cs := []) (σ' := (7, [some (.ref 100), some (.int x), some (.int (bi z))], [.int x, .ref 100], (SS b c), (upI I 100 0 0), J, 0, 0)) rfl trivial ?_
  simp only [ht]
  show Rj _ _ _ _ _ _ (7, [some (.ref 100), some (.int x), some (.int (bi z))], [.int x, .ref 100], (SS b c), I, J, 0, 0)
  refine r_callV okX12_siren okX12_isCell [.int x] [] 100 rfl rfl rfl kkX12_isCell rfl rfl (by decide) rfl rfl rfl (by decide) ⟨Nat.le_refl _, Nat.le_refl _⟩ (Nat.le_of_ble_eq_true rfl) (c_isCell γ x) (fun v1 S1 I1 J1 hp => ?_)
  obtain ⟨rfl, rfl, rfl, rfl⟩ := hp
  show Rj _ _ _ _ _ _ (10, [some (.ref 100), some (.int x), some (.int (bi z))], [.int (bi (cellB x))], (SS b c), I, J, 0, 0)
  refine r_ifc okX12_siren rfl (fun (h10 : ¬ (bi (cellB x)) = (0 : Int32)) => ?_) (fun h100 => ?_)
  · have h10s := bi_n0.mp h10
    refine r_run okX12_siren 6 (cs := [vp_in x 96, bz (bi z)]) (σ' := (23, [some (.ref 100), some (.int x), some (.int (bi z))], [.int 1], (SS b c), (upI I 104 x.toNatClampNeg (bi z)), J, 0, 0)) rfl ⟨(vin_cell (by assumption)), (bi_bz z), trivial⟩ ?_
    refine r_iret okX12_siren rfl rfl (by decide +kernel) (Nat.le_refl _) (Nat.le_refl _) ?_
    refine ⟨?_, rfl, ?_, rfl⟩ <;> simp [sirN, bi, nv, *]
  · have h10 : (bi (cellB x)) = (0 : Int32) := Classical.not_not.mp h100
    have h10s := bi_0.mp h10
    refine r_run okX12_siren 1 (cs := []) (σ' := (14, [some (.ref 100), some (.int x), some (.int (bi z))], [.int 0], (SS b c), I, J, 0, 0)) rfl trivial ?_
    refine r_iret okX12_siren rfl rfl (by decide +kernel) (Nat.le_refl _) (Nat.le_refl _) ?_
    refine ⟨?_, rfl, ?_, rfl⟩ <;> simp [sirN, bi, nv, *]
def stoB (m s : Int32) : Bool := inB m 1 511 && inB s 0 719
def stoN (I : AI) (m s : Int32) : AI := if stoB m s then upI (upI I 100 6 m) 100 7 s else I
theorem c_Mstorm (γ : GE) {b c : Bool} {I : AI} {J : AJ} (hT : I 100 0 = 0) (m s : Int32) : Ct γ mX12_storm 1 0 0 [.ref 100, .int m, .int s] (SS b c) I J (rI (bi (stoB m s)) (SS b c) (stoN I m s) J) := by
  have ht := told0 hT
  refine ct_of okX12_storm (L := [some (.ref 100), some (.int m), some (.int s)]) (Nat.le_of_ble_eq_true rfl) rfl ?_
  refine r_run okX12_storm 7 (cs := []) (σ' := (11, [some (.ref 100), some (.int m), some (.int s)], [.int 511, .int 1, .int m, .ref 100], (SS b c), (upI I 100 0 0), J, 0, 0)) rfl trivial ?_
  simp only [ht]
  show Rj _ _ _ _ _ _ (11, [some (.ref 100), some (.int m), some (.int s)], [.int 511, .int 1, .int m, .ref 100], (SS b c), I, J, 0, 0)
  refine r_callV okX12_storm okX12_isIn [.int m, .int 1, .int 511] [] 100 rfl rfl rfl kkX12_isIn rfl rfl (by decide) rfl rfl rfl (by decide) ⟨Nat.le_refl _, Nat.le_refl _⟩ (Nat.le_of_ble_eq_true rfl) (c_isIn γ m 1 511) (fun v1 S1 I1 J1 hp => ?_)
  obtain ⟨rfl, rfl, rfl, rfl⟩ := hp
  show Rj _ _ _ _ _ _ (14, [some (.ref 100), some (.int m), some (.int s)], [.int (bi (inB m 1 511))], (SS b c), I, J, 0, 0)
  refine r_ifc okX12_storm rfl (fun (h14 : (bi (inB m 1 511)) = (0 : Int32)) => ?_) (fun (h14 : ¬ (bi (inB m 1 511)) = (0 : Int32)) => ?_)
  · have h14s := bi_0.mp h14
    refine r_run okX12_storm 1 (cs := []) (σ' := (30, [some (.ref 100), some (.int m), some (.int s)], [.int 0], (SS b c), I, J, 0, 0)) rfl trivial ?_
    refine r_iret okX12_storm rfl rfl (by decide +kernel) (Nat.le_refl _) (Nat.le_refl _) ?_
    refine ⟨?_, rfl, ?_, rfl⟩ <;> simp [stoN, stoB, bi, *]
  · have h14s := bi_n0.mp h14
    refine r_run okX12_storm 4 (cs := []) (σ' := (23, [some (.ref 100), some (.int m), some (.int s)], [.int 719, .int 0, .int s, .ref 100], (SS b c), I, J, 0, 0)) rfl trivial ?_
    refine r_callV okX12_storm okX12_isIn [.int s, .int 0, .int 719] [] 100 rfl rfl rfl kkX12_isIn rfl rfl (by decide) rfl rfl rfl (by decide) ⟨Nat.le_refl _, Nat.le_refl _⟩ (Nat.le_of_ble_eq_true rfl) (c_isIn γ s 0 719) (fun v1 S1 I1 J1 hp => ?_)
    obtain ⟨rfl, rfl, rfl, rfl⟩ := hp
    show Rj _ _ _ _ _ _ (26, [some (.ref 100), some (.int m), some (.int s)], [.int (bi (inB s 0 719))], (SS b c), I, J, 0, 0)
    refine r_ifc okX12_storm rfl (fun (h26 : ¬ (bi (inB s 0 719)) = (0 : Int32)) => ?_) (fun h260 => ?_)
    · have h26s := bi_n0.mp h26
      refine r_run okX12_storm 7 (cs := []) (σ' := (42, [some (.ref 100), some (.int m), some (.int s)], [.int 1], (SS b c), (upI (upI I 100 6 m) 100 7 s), J, 0, 0)) rfl trivial ?_
      refine r_iret okX12_storm rfl rfl (by decide +kernel) (Nat.le_refl _) (Nat.le_refl _) ?_
      refine ⟨?_, rfl, ?_, rfl⟩ <;> simp [stoN, stoB, bi, *]
    · have h26 : (bi (inB s 0 719)) = (0 : Int32) := Classical.not_not.mp h260
      have h26s := bi_0.mp h26
      refine r_run okX12_storm 1 (cs := []) (σ' := (30, [some (.ref 100), some (.int m), some (.int s)], [.int 0], (SS b c), I, J, 0, 0)) rfl trivial ?_
      refine r_iret okX12_storm rfl rfl (by decide +kernel) (Nat.le_refl _) (Nat.le_refl _) ?_
      refine ⟨?_, rfl, ?_, rfl⟩ <;> simp [stoN, stoB, bi, *]
