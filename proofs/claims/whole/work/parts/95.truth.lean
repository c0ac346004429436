/-! ===== Warnings.tell; TruePath ===== -/
theorem o_tell0 (γ : GE) {b c : Bool} {I : AI} {J : AJ} (hO : OWar I J) (hI : MWar I) {w : Nat} (hw : w < nv (I 100 45)) : Ct γ mX10_tell 0 0 0 [.ref 52, .int (nI w), .int 0] (SS b c) I J (rI (wngV I (nI w) 0) (SS b c) I J) := by
  have hw2 : w < 200 := by have := (rg_nv hI.1 (by decide)).1; omega
  have cw : (nI w).toNatClampNeg = w := nI_clamp (by omega)
  obtain ⟨e53, e54, e55, e56, e57, l1, l2, l3⟩ := hO.2.1 w hw
  have e11 := hO.1
  have h45 := rg_nv hI.1 (by decide)
  have hin : inB (nI w) 0 (I 100 45 - 1) = true := by
    rw [h45.2, show nI (nv (I 100 45)) - 1 = nI (nv (I 100 45) - 1) from nI_prd (by omega)]
    exact inB_t.mpr ⟨nI_pos' (by omega), nI_le (by omega) (by omega)⟩
  refine ct_of okX10_tell (L := [some (.ref 52), some (.int (nI w)), some (.int 0)]) (Nat.le_of_ble_eq_true rfl) rfl ?_
  refine r_run okX10_tell 1 (cs := []) (σ' := (1, [some (.ref 52), some (.int (nI w)), some (.int 0)], [.int (nI w)], (SS b c), I, J, 0, 0)) rfl trivial ?_
  refine r_ifc okX10_tell rfl (fun (h1 : (nI w) < (0 : Int32)) => ?_) (fun (h1 : ¬ (nI w) < (0 : Int32)) => ?_)
  · exact absurd h1 (nI_pos (by omega))
  · refine r_run okX10_tell 3 (cs := []) (σ' := (9, [some (.ref 52), some (.int (nI w)), some (.int 0)], [.int (I 52 11), .int (nI w)], (SS b c), I, J, 0, 0)) rfl trivial ?_
    simp only [e11]
    show Rj _ _ _ _ _ _ (9, [some (.ref 52), some (.int (nI w)), some (.int 0)], [.int (I 100 45), .int (nI w)], (SS b c), I, J, 0, 0)
    refine r_icmp okX10_tell rfl (fun (h9 : (nI w) < (I 100 45)) => ?_) (fun (h9 : ¬ (nI w) < (I 100 45)) => ?_)
    · refine r_run okX10_tell 1 (cs := []) (σ' := (15, [some (.ref 52), some (.int (nI w)), some (.int 0)], [.int 0], (SS b c), I, J, 0, 0)) rfl trivial ?_
      refine r_tblIn okX10_tell rfl (by decide) (by decide) (off := 33) (tgt := 48) rfl rfl ?_
      show Rj _ _ _ _ _ _ (48, [some (.ref 52), some (.int (nI w)), some (.int 0)], [], (SS b c), I, J, 0, 0)
      refine r_run okX10_tell 4 (cs := [vp_in (nI w) 200]) (σ' := (54, [some (.ref 52), some (.int (nI w)), some (.int 0)], [.int (I 53 ((nI w).toNatClampNeg))], (SS b c), I, J, 0, 0)) rfl ⟨(vin hw2 (by decide)), trivial⟩ ?_
      simp only [cw, e53]
      show Rj _ _ _ _ _ _ (54, [some (.ref 52), some (.int (nI w)), some (.int 0)], [.int (I 127 w)], (SS b c), I, J, 0, 0)
      refine r_iret okX10_tell rfl rfl rfl (Nat.le_refl _) (Nat.le_refl _) ?_
      exact ⟨by unfold wngV; rw [hin]; simp [nv_nI (show w < 2 ^ 31 by omega)], rfl, rfl, rfl⟩
    · exact absurd (by rw [h45.2]; exact nI_lt hw (by omega)) h9
theorem o_tell1 (γ : GE) {b c : Bool} {I : AI} {J : AJ} (hO : OWar I J) (hI : MWar I) {w : Nat} (hw : w < nv (I 100 45)) : Ct γ mX10_tell 0 0 0 [.ref 52, .int (nI w), .int 1] (SS b c) I J (rI (wngV I (nI w) 1) (SS b c) I J) := by
  have hw2 : w < 200 := by have := (rg_nv hI.1 (by decide)).1; omega
  have cw : (nI w).toNatClampNeg = w := nI_clamp (by omega)
  obtain ⟨e53, e54, e55, e56, e57, l1, l2, l3⟩ := hO.2.1 w hw
  have e11 := hO.1
  have h45 := rg_nv hI.1 (by decide)
  have hin : inB (nI w) 0 (I 100 45 - 1) = true := by
    rw [h45.2, show nI (nv (I 100 45)) - 1 = nI (nv (I 100 45) - 1) from nI_prd (by omega)]
    exact inB_t.mpr ⟨nI_pos' (by omega), nI_le (by omega) (by omega)⟩
  refine ct_of okX10_tell (L := [some (.ref 52), some (.int (nI w)), some (.int 1)]) (Nat.le_of_ble_eq_true rfl) rfl ?_
  refine r_run okX10_tell 1 (cs := []) (σ' := (1, [some (.ref 52), some (.int (nI w)), some (.int 1)], [.int (nI w)], (SS b c), I, J, 0, 0)) rfl trivial ?_
  refine r_ifc okX10_tell rfl (fun (h1 : (nI w) < (0 : Int32)) => ?_) (fun (h1 : ¬ (nI w) < (0 : Int32)) => ?_)
  · exact absurd h1 (nI_pos (by omega))
  · refine r_run okX10_tell 3 (cs := []) (σ' := (9, [some (.ref 52), some (.int (nI w)), some (.int 1)], [.int (I 52 11), .int (nI w)], (SS b c), I, J, 0, 0)) rfl trivial ?_
    simp only [e11]
    show Rj _ _ _ _ _ _ (9, [some (.ref 52), some (.int (nI w)), some (.int 1)], [.int (I 100 45), .int (nI w)], (SS b c), I, J, 0, 0)
    refine r_icmp okX10_tell rfl (fun (h9 : (nI w) < (I 100 45)) => ?_) (fun (h9 : ¬ (nI w) < (I 100 45)) => ?_)
    · refine r_run okX10_tell 1 (cs := []) (σ' := (15, [some (.ref 52), some (.int (nI w)), some (.int 1)], [.int 1], (SS b c), I, J, 0, 0)) rfl trivial ?_
      refine r_tblIn okX10_tell rfl (by decide) (by decide) (off := 40) (tgt := 55) rfl rfl ?_
      show Rj _ _ _ _ _ _ (55, [some (.ref 52), some (.int (nI w)), some (.int 1)], [], (SS b c), I, J, 0, 0)
      refine r_run okX10_tell 4 (cs := [vp_in (nI w) 200]) (σ' := (61, [some (.ref 52), some (.int (nI w)), some (.int 1)], [.int (I 54 ((nI w).toNatClampNeg))], (SS b c), I, J, 0, 0)) rfl ⟨(vin hw2 (by decide)), trivial⟩ ?_
      simp only [cw, e54]
      show Rj _ _ _ _ _ _ (61, [some (.ref 52), some (.int (nI w)), some (.int 1)], [.int (I 128 w)], (SS b c), I, J, 0, 0)
      refine r_iret okX10_tell rfl rfl rfl (Nat.le_refl _) (Nat.le_refl _) ?_
      exact ⟨by unfold wngV; rw [hin]; simp [nv_nI (show w < 2 ^ 31 by omega)], rfl, rfl, rfl⟩
    · exact absurd (by rw [h45.2]; exact nI_lt hw (by omega)) h9
theorem o_tell2 (γ : GE) {b c : Bool} {I : AI} {J : AJ} (hO : OWar I J) (hI : MWar I) {w : Nat} (hw : w < nv (I 100 45)) : Ct γ mX10_tell 0 0 0 [.ref 52, .int (nI w), .int 2] (SS b c) I J (rI (wngV I (nI w) 2) (SS b c) I J) := by
  have hw2 : w < 200 := by have := (rg_nv hI.1 (by decide)).1; omega
  have cw : (nI w).toNatClampNeg = w := nI_clamp (by omega)
  obtain ⟨e53, e54, e55, e56, e57, l1, l2, l3⟩ := hO.2.1 w hw
  have e11 := hO.1
  have h45 := rg_nv hI.1 (by decide)
  have hin : inB (nI w) 0 (I 100 45 - 1) = true := by
    rw [h45.2, show nI (nv (I 100 45)) - 1 = nI (nv (I 100 45) - 1) from nI_prd (by omega)]
    exact inB_t.mpr ⟨nI_pos' (by omega), nI_le (by omega) (by omega)⟩
  refine ct_of okX10_tell (L := [some (.ref 52), some (.int (nI w)), some (.int 2)]) (Nat.le_of_ble_eq_true rfl) rfl ?_
  refine r_run okX10_tell 1 (cs := []) (σ' := (1, [some (.ref 52), some (.int (nI w)), some (.int 2)], [.int (nI w)], (SS b c), I, J, 0, 0)) rfl trivial ?_
  refine r_ifc okX10_tell rfl (fun (h1 : (nI w) < (0 : Int32)) => ?_) (fun (h1 : ¬ (nI w) < (0 : Int32)) => ?_)
  · exact absurd h1 (nI_pos (by omega))
  · refine r_run okX10_tell 3 (cs := []) (σ' := (9, [some (.ref 52), some (.int (nI w)), some (.int 2)], [.int (I 52 11), .int (nI w)], (SS b c), I, J, 0, 0)) rfl trivial ?_
    simp only [e11]
    show Rj _ _ _ _ _ _ (9, [some (.ref 52), some (.int (nI w)), some (.int 2)], [.int (I 100 45), .int (nI w)], (SS b c), I, J, 0, 0)
    refine r_icmp okX10_tell rfl (fun (h9 : (nI w) < (I 100 45)) => ?_) (fun (h9 : ¬ (nI w) < (I 100 45)) => ?_)
    · refine r_run okX10_tell 1 (cs := []) (σ' := (15, [some (.ref 52), some (.int (nI w)), some (.int 2)], [.int 2], (SS b c), I, J, 0, 0)) rfl trivial ?_
      refine r_tblIn okX10_tell rfl (by decide) (by decide) (off := 47) (tgt := 62) rfl rfl ?_
      show Rj _ _ _ _ _ _ (62, [some (.ref 52), some (.int (nI w)), some (.int 2)], [], (SS b c), I, J, 0, 0)
      refine r_run okX10_tell 4 (cs := [vp_in (nI w) 200]) (σ' := (68, [some (.ref 52), some (.int (nI w)), some (.int 2)], [.int (I 55 ((nI w).toNatClampNeg))], (SS b c), I, J, 0, 0)) rfl ⟨(vin hw2 (by decide)), trivial⟩ ?_
      simp only [cw, e55]
      show Rj _ _ _ _ _ _ (68, [some (.ref 52), some (.int (nI w)), some (.int 2)], [.int (I 129 w)], (SS b c), I, J, 0, 0)
      refine r_iret okX10_tell rfl rfl rfl (Nat.le_refl _) (Nat.le_refl _) ?_
      exact ⟨by unfold wngV; rw [hin]; simp [nv_nI (show w < 2 ^ 31 by omega)], rfl, rfl, rfl⟩
    · exact absurd (by rw [h45.2]; exact nI_lt hw (by omega)) h9
theorem o_tell3 (γ : GE) {b c : Bool} {I : AI} {J : AJ} (hO : OWar I J) (hI : MWar I) {w : Nat} (hw : w < nv (I 100 45)) : Ct γ mX10_tell 0 0 0 [.ref 52, .int (nI w), .int 3] (SS b c) I J (rI (wngV I (nI w) 3) (SS b c) I J) := by
  have hw2 : w < 200 := by have := (rg_nv hI.1 (by decide)).1; omega
  have cw : (nI w).toNatClampNeg = w := nI_clamp (by omega)
  obtain ⟨e53, e54, e55, e56, e57, l1, l2, l3⟩ := hO.2.1 w hw
  have e11 := hO.1
  have h45 := rg_nv hI.1 (by decide)
  have hin : inB (nI w) 0 (I 100 45 - 1) = true := by
    rw [h45.2, show nI (nv (I 100 45)) - 1 = nI (nv (I 100 45) - 1) from nI_prd (by omega)]
    exact inB_t.mpr ⟨nI_pos' (by omega), nI_le (by omega) (by omega)⟩
  refine ct_of okX10_tell (L := [some (.ref 52), some (.int (nI w)), some (.int 3)]) (Nat.le_of_ble_eq_true rfl) rfl ?_
  refine r_run okX10_tell 1 (cs := []) (σ' := (1, [some (.ref 52), some (.int (nI w)), some (.int 3)], [.int (nI w)], (SS b c), I, J, 0, 0)) rfl trivial ?_
  refine r_ifc okX10_tell rfl (fun (h1 : (nI w) < (0 : Int32)) => ?_) (fun (h1 : ¬ (nI w) < (0 : Int32)) => ?_)
  · exact absurd h1 (nI_pos (by omega))
  · refine r_run okX10_tell 3 (cs := []) (σ' := (9, [some (.ref 52), some (.int (nI w)), some (.int 3)], [.int (I 52 11), .int (nI w)], (SS b c), I, J, 0, 0)) rfl trivial ?_
    simp only [e11]
    show Rj _ _ _ _ _ _ (9, [some (.ref 52), some (.int (nI w)), some (.int 3)], [.int (I 100 45), .int (nI w)], (SS b c), I, J, 0, 0)
    refine r_icmp okX10_tell rfl (fun (h9 : (nI w) < (I 100 45)) => ?_) (fun (h9 : ¬ (nI w) < (I 100 45)) => ?_)
    · refine r_run okX10_tell 1 (cs := []) (σ' := (15, [some (.ref 52), some (.int (nI w)), some (.int 3)], [.int 3], (SS b c), I, J, 0, 0)) rfl trivial ?_
      refine r_tblIn okX10_tell rfl (by decide) (by decide) (off := 54) (tgt := 69) rfl rfl ?_
      show Rj _ _ _ _ _ _ (69, [some (.ref 52), some (.int (nI w)), some (.int 3)], [], (SS b c), I, J, 0, 0)
      refine r_run okX10_tell 4 (cs := [vp_in (nI w) 200]) (σ' := (75, [some (.ref 52), some (.int (nI w)), some (.int 3)], [.int (I 56 ((nI w).toNatClampNeg))], (SS b c), I, J, 0, 0)) rfl ⟨(vin hw2 (by decide)), trivial⟩ ?_
      simp only [cw, e56]
      show Rj _ _ _ _ _ _ (75, [some (.ref 52), some (.int (nI w)), some (.int 3)], [.int (I 130 w)], (SS b c), I, J, 0, 0)
      refine r_iret okX10_tell rfl rfl rfl (Nat.le_refl _) (Nat.le_refl _) ?_
      exact ⟨by unfold wngV; rw [hin]; simp [nv_nI (show w < 2 ^ 31 by omega)], rfl, rfl, rfl⟩
    · exact absurd (by rw [h45.2]; exact nI_lt hw (by omega)) h9
theorem o_tell4 (γ : GE) {b c : Bool} {I : AI} {J : AJ} (hO : OWar I J) (hI : MWar I) {w : Nat} (hw : w < nv (I 100 45)) : Ct γ mX10_tell 0 0 0 [.ref 52, .int (nI w), .int 4] (SS b c) I J (rI (wngV I (nI w) 4) (SS b c) I J) := by
  have hw2 : w < 200 := by have := (rg_nv hI.1 (by decide)).1; omega
  have cw : (nI w).toNatClampNeg = w := nI_clamp (by omega)
  obtain ⟨e53, e54, e55, e56, e57, l1, l2, l3⟩ := hO.2.1 w hw
  have e11 := hO.1
  have h45 := rg_nv hI.1 (by decide)
  have hin : inB (nI w) 0 (I 100 45 - 1) = true := by
    rw [h45.2, show nI (nv (I 100 45)) - 1 = nI (nv (I 100 45) - 1) from nI_prd (by omega)]
    exact inB_t.mpr ⟨nI_pos' (by omega), nI_le (by omega) (by omega)⟩
  refine ct_of okX10_tell (L := [some (.ref 52), some (.int (nI w)), some (.int 4)]) (Nat.le_of_ble_eq_true rfl) rfl ?_
  refine r_run okX10_tell 1 (cs := []) (σ' := (1, [some (.ref 52), some (.int (nI w)), some (.int 4)], [.int (nI w)], (SS b c), I, J, 0, 0)) rfl trivial ?_
  refine r_ifc okX10_tell rfl (fun (h1 : (nI w) < (0 : Int32)) => ?_) (fun (h1 : ¬ (nI w) < (0 : Int32)) => ?_)
  · exact absurd h1 (nI_pos (by omega))
  · refine r_run okX10_tell 3 (cs := []) (σ' := (9, [some (.ref 52), some (.int (nI w)), some (.int 4)], [.int (I 52 11), .int (nI w)], (SS b c), I, J, 0, 0)) rfl trivial ?_
    simp only [e11]
    show Rj _ _ _ _ _ _ (9, [some (.ref 52), some (.int (nI w)), some (.int 4)], [.int (I 100 45), .int (nI w)], (SS b c), I, J, 0, 0)
    refine r_icmp okX10_tell rfl (fun (h9 : (nI w) < (I 100 45)) => ?_) (fun (h9 : ¬ (nI w) < (I 100 45)) => ?_)
    · refine r_run okX10_tell 1 (cs := []) (σ' := (15, [some (.ref 52), some (.int (nI w)), some (.int 4)], [.int 4], (SS b c), I, J, 0, 0)) rfl trivial ?_
      refine r_tblIn okX10_tell rfl (by decide) (by decide) (off := 61) (tgt := 76) rfl rfl ?_
      show Rj _ _ _ _ _ _ (76, [some (.ref 52), some (.int (nI w)), some (.int 4)], [], (SS b c), I, J, 0, 0)
      refine r_run okX10_tell 4 (cs := [vp_in (nI w) 200]) (σ' := (82, [some (.ref 52), some (.int (nI w)), some (.int 4)], [.int (I 57 ((nI w).toNatClampNeg))], (SS b c), I, J, 0, 0)) rfl ⟨(vin hw2 (by decide)), trivial⟩ ?_
      simp only [cw, e57]
      show Rj _ _ _ _ _ _ (82, [some (.ref 52), some (.int (nI w)), some (.int 4)], [.int (I 131 w)], (SS b c), I, J, 0, 0)
      refine r_iret okX10_tell rfl rfl rfl (Nat.le_refl _) (Nat.le_refl _) ?_
      exact ⟨by unfold wngV; rw [hin]; simp [nv_nI (show w < 2 ^ 31 by omega)], rfl, rfl, rfl⟩
    · exact absurd (by rw [h45.2]; exact nI_lt hw (by omega)) h9
theorem o_tello (γ : GE) {b c : Bool} {I : AI} {J : AJ} (hO : OWar I J) (hI : MWar I) {w : Nat} (hw : w < nv (I 100 45)) {v : Int32} (ho : ∀ k, k ≤ 4 → ¬ v = nI k) : Ct γ mX10_tell 0 0 0 [.ref 52, .int (nI w), .int v] (SS b c) I J (rI (wngV I (nI w) v) (SS b c) I J) := by
  have hw2 : w < 200 := by have := (rg_nv hI.1 (by decide)).1; omega
  have cw : (nI w).toNatClampNeg = w := nI_clamp (by omega)
  obtain ⟨e53, e54, e55, e56, e57, l1, l2, l3⟩ := hO.2.1 w hw
  have e11 := hO.1
  have h45 := rg_nv hI.1 (by decide)
  have hin : inB (nI w) 0 (I 100 45 - 1) = true := by
    rw [h45.2, show nI (nv (I 100 45)) - 1 = nI (nv (I 100 45) - 1) from nI_prd (by omega)]
    exact inB_t.mpr ⟨nI_pos' (by omega), nI_le (by omega) (by omega)⟩
  refine ct_of okX10_tell (L := [some (.ref 52), some (.int (nI w)), some (.int v)]) (Nat.le_of_ble_eq_true rfl) rfl ?_
  refine r_run okX10_tell 1 (cs := []) (σ' := (1, [some (.ref 52), some (.int (nI w)), some (.int v)], [.int (nI w)], (SS b c), I, J, 0, 0)) rfl trivial ?_
  refine r_ifc okX10_tell rfl (fun (h1 : (nI w) < (0 : Int32)) => ?_) (fun (h1 : ¬ (nI w) < (0 : Int32)) => ?_)
  · exact absurd h1 (nI_pos (by omega))
  · refine r_run okX10_tell 3 (cs := []) (σ' := (9, [some (.ref 52), some (.int (nI w)), some (.int v)], [.int (I 52 11), .int (nI w)], (SS b c), I, J, 0, 0)) rfl trivial ?_
    simp only [e11]
    show Rj _ _ _ _ _ _ (9, [some (.ref 52), some (.int (nI w)), some (.int v)], [.int (I 100 45), .int (nI w)], (SS b c), I, J, 0, 0)
    refine r_icmp okX10_tell rfl (fun (h9 : (nI w) < (I 100 45)) => ?_) (fun (h9 : ¬ (nI w) < (I 100 45)) => ?_)
    · refine r_run okX10_tell 1 (cs := []) (σ' := (15, [some (.ref 52), some (.int (nI w)), some (.int v)], [.int v], (SS b c), I, J, 0, 0)) rfl trivial ?_
      refine r_tblOut okX10_tell rfl (sw_out 4 (by decide) (fun k hk => ho k hk)) (tgt := 83) rfl ?_
      show Rj _ _ _ _ _ _ (83, [some (.ref 52), some (.int (nI w)), some (.int v)], [], (SS b c), I, J, 0, 0)
      refine r_run okX10_tell 1 (cs := []) (σ' := (84, [some (.ref 52), some (.int (nI w)), some (.int v)], [.int (-1)], (SS b c), I, J, 0, 0)) rfl trivial ?_
      refine r_iret okX10_tell rfl rfl rfl (Nat.le_refl _) (Nat.le_refl _) ?_
      exact ⟨by unfold wngV; rw [hin, if_neg (by decide), if_neg (show ¬ v = 0 from ho 0 (by omega)), if_neg (show ¬ v = 1 from ho 1 (by omega)), if_neg (show ¬ v = 2 from ho 2 (by omega)), if_neg (show ¬ v = 3 from ho 3 (by omega)), if_neg (show ¬ v = 4 from ho 4 (by omega))], rfl, rfl, rfl⟩
    · exact absurd (by rw [h45.2]; exact nI_lt hw (by omega)) h9
theorem o_tellF (γ : GE) {b c : Bool} {I : AI} {J : AJ} (hO : OWar I J) (hI : MWar I) {x v : Int32} (hin : inB x 0 (I 100 45 - 1) = false) : Ct γ mX10_tell 0 0 0 [.ref 52, .int x, .int v] (SS b c) I J (rI (wngV I x v) (SS b c) I J) := by
  have e11 := hO.1
  have h45 := rg_nv hI.1 (by decide)
  refine ct_of okX10_tell (L := [some (.ref 52), some (.int x), some (.int v)]) (Nat.le_of_ble_eq_true rfl) rfl ?_
  refine r_run okX10_tell 1 (cs := []) (σ' := (1, [some (.ref 52), some (.int x), some (.int v)], [.int x], (SS b c), I, J, 0, 0)) rfl trivial ?_
  refine r_ifc okX10_tell rfl (fun (h1 : x < (0 : Int32)) => ?_) (fun (h1 : ¬ x < (0 : Int32)) => ?_)
  · refine r_run okX10_tell 1 (cs := []) (σ' := (13, [some (.ref 52), some (.int x), some (.int v)], [.int (-1)], (SS b c), I, J, 0, 0)) rfl trivial ?_
    refine r_iret okX10_tell rfl rfl rfl (Nat.le_refl _) (Nat.le_refl _) ?_
    exact ⟨by unfold wngV; rw [hin, if_pos rfl], rfl, rfl, rfl⟩
  · refine r_run okX10_tell 3 (cs := []) (σ' := (9, [some (.ref 52), some (.int x), some (.int v)], [.int (I 52 11), .int x], (SS b c), I, J, 0, 0)) rfl trivial ?_
    simp only [e11]
    show Rj _ _ _ _ _ _ (9, [some (.ref 52), some (.int x), some (.int v)], [.int (I 100 45), .int x], (SS b c), I, J, 0, 0)
    refine r_icmp okX10_tell rfl (fun (h9 : x < (I 100 45)) => ?_) (fun (h9 : ¬ x < (I 100 45)) => ?_)
    · refine absurd (show inB x 0 (I 100 45 - 1) = true from inB_t.mpr ⟨Int32.not_lt.mp h1, ?_⟩) (by rw [hin]; decide)
      obtain ⟨k, rfl, hk⟩ := nI_ofx (Int32.not_lt.mp h1)
      rw [h45.2] at h9 ⊢
      have hlt : k < nv (I 100 45) := Nat.lt_of_not_le fun z => absurd h9 (nI_nlt z (by omega))
      rw [show nI (nv (I 100 45)) - 1 = nI (nv (I 100 45) - 1) from nI_prd (by omega)]
      exact nI_le (by omega) (by omega)
    · refine r_run okX10_tell 1 (cs := []) (σ' := (13, [some (.ref 52), some (.int x), some (.int v)], [.int (-1)], (SS b c), I, J, 0, 0)) rfl trivial ?_
      refine r_iret okX10_tell rfl rfl rfl (Nat.le_refl _) (Nat.le_refl _) ?_
      exact ⟨by unfold wngV; rw [hin, if_pos rfl], rfl, rfl, rfl⟩
theorem o_tell (γ : GE) {b c : Bool} {I : AI} {J : AJ} (hO : OWar I J) (hI : MWar I) (x v : Int32) : Ct γ mX10_tell 0 0 0 [.ref 52, .int x, .int v] (SS b c) I J (rI (wngV I x v) (SS b c) I J) := by
  cases hin : inB x 0 (I 100 45 - 1) with
  | false => exact o_tellF γ hO hI hin
  | true =>
    obtain ⟨h1, h2⟩ := wng_nat hI.1 hin
    obtain ⟨w, hw, rfl⟩ := vp_in_of h1 (by decide)
    rw [nv_nI (by omega)] at h2
    by_cases v0 : v = 0
    · subst v0; exact o_tell0 γ hO hI h2
    by_cases v1 : v = 1
    · subst v1; exact o_tell1 γ hO hI h2
    by_cases v2 : v = 2
    · subst v2; exact o_tell2 γ hO hI h2
    by_cases v3 : v = 3
    · subst v3; exact o_tell3 γ hO hI h2
    by_cases v4 : v = 4
    · subst v4; exact o_tell4 γ hO hI h2
    refine o_tello γ hO hI h2 (fun k hk => ?_)
    have : k = 0 ∨ k = 1 ∨ k = 2 ∨ k = 3 ∨ k = 4 := by omega
    rcases this with rfl | rfl | rfl | rfl | rfl
    · exact v0
    · exact v1
    · exact v2
    · exact v3
    · exact v4
def OTru (I : AI) : Prop := ∀ t, t < 720 → I 64 t = I 139 t - 1
def fdV (I : AI) (n : Nat) : Int32 := if I 139 n = 0 ∨ (0 < n ∧ I 139 (n - 1) = I 139 n) then 0 else I 102 (nv (I 139 n) - 1) - safV I (nI n) (nv (I 139 n) - 1)
theorem o_cellAt0 (γ : GE) {b c : Bool} {I : AI} {J : AJ} (hT : OTru I) {n : Nat} (hn : n < 720) : Ct γ mX8_cellAt 0 0 0 [.ref 63, .int (nI n)] (SS b c) I J (rI (I 139 n - 1) (SS b c) I J) := by
  have cn : (nI n).toNatClampNeg = n := nI_clamp (by omega)
  have e64 := hT n hn
  refine ct_of okX8_cellAt (L := [some (.ref 63), some (.int (nI n))]) (Nat.le_of_ble_eq_true rfl) rfl ?_
  refine r_run okX8_cellAt 1 (cs := []) (σ' := (1, [some (.ref 63), some (.int (nI n))], [.int (nI n)], (SS b c), I, J, 0, 0)) rfl trivial ?_
  refine r_ifc okX8_cellAt rfl (fun (h1 : (nI n) < (0 : Int32)) => ?_) (fun (h1 : ¬ (nI n) < (0 : Int32)) => ?_)
  · exact absurd h1 (nI_pos (by omega))
  · refine r_run okX8_cellAt 2 (cs := []) (σ' := (8, [some (.ref 63), some (.int (nI n))], [.int 720, .int (nI n)], (SS b c), I, J, 0, 0)) rfl trivial ?_
    refine r_icmp okX8_cellAt rfl (fun (h8 : (720 : Int32) ≤ (nI n)) => ?_) (fun (h8 : ¬ (720 : Int32) ≤ (nI n)) => ?_)
    · exact absurd h8 (nI_ge (a := n) (b := 720) hn (by decide))
    · refine r_run okX8_cellAt 5 (cs := [vp_in (nI n) 720]) (σ' := (21, [some (.ref 63), some (.int (nI n))], [.int (I 64 ((nI n).toNatClampNeg))], (SS b c), I, J, 0, 0)) rfl ⟨(vin hn (by decide)), trivial⟩ ?_
      simp only [cn, e64]
      show Rj _ _ _ _ _ _ (21, [some (.ref 63), some (.int (nI n))], [.int ((I 139 n) - 1)], (SS b c), I, J, 0, 0)
      refine r_iret okX8_cellAt rfl rfl rfl (Nat.le_refl _) (Nat.le_refl _) ?_
      exact ⟨rfl, rfl, rfl, rfl⟩
theorem o_cellAt (γ : GE) {b c : Bool} {I : AI} {J : AJ} (hT : OTru I) {n : Nat} (hn : n < 720) {X v : Int32} (eX : X = nI n) (ev : I 139 n - 1 = v) : Ct γ mX8_cellAt 0 0 0 [.ref 63, .int X] (SS b c) I J (rI v (SS b c) I J) := by
  subst eX; subst ev; exact o_cellAt0 γ hT hn
theorem o_cellAtM (γ : GE) {b c : Bool} {I : AI} {J : AJ} {x : Int32} (ex : x = -1) : Ct γ mX8_cellAt 0 0 0 [.ref 63, .int x] (SS b c) I J (rI (-1) (SS b c) I J) := by
  refine ct_of okX8_cellAt (L := [some (.ref 63), some (.int x)]) (Nat.le_of_ble_eq_true rfl) rfl ?_
  refine r_run okX8_cellAt 1 (cs := []) (σ' := (1, [some (.ref 63), some (.int x)], [.int x], (SS b c), I, J, 0, 0)) rfl trivial ?_
  refine r_ifc okX8_cellAt rfl (fun (h1 : x < (0 : Int32)) => ?_) (fun (h1 : ¬ x < (0 : Int32)) => ?_)
  · refine r_run okX8_cellAt 1 (cs := []) (σ' := (21, [some (.ref 63), some (.int x)], [.int (-1)], (SS b c), I, J, 0, 0)) rfl trivial ?_
    refine r_iret okX8_cellAt rfl rfl rfl (Nat.le_refl _) (Nat.le_refl _) ?_
    exact ⟨rfl, rfl, rfl, rfl⟩
  · exact absurd (by rw [ex]; decide) h1
theorem o_isIn0 (γ : GE) {b c : Bool} {I : AI} {J : AJ} (hT : OTru I) (hM : MTru I) (hL : OLd I) {n : Nat} (hn : n < 720) (y : Int32) (e0 : I 139 n = nI 0) : Ct γ mX8_isIn 1 0 0 [.ref 63, .int y, .int (nI n)] (SS b c) I J (rI (bi (trI I n y)) (SS b c) I J) := by
  have e1 : I 139 n - 1 = -1 := by rw [e0]; rfl
  refine ct_of okX8_isIn (L := [some (.ref 63), some (.int y), some (.int (nI n)), none]) (Nat.le_of_ble_eq_true rfl) rfl ?_
  refine r_run okX8_isIn 2 (cs := []) (σ' := (2, [some (.ref 63), some (.int y), some (.int (nI n)), none], [.int (nI n), .ref 63], (SS b c), I, J, 0, 0)) rfl trivial ?_
  refine r_callV okX8_isIn okX8_cellAt [.int (nI n)] [] 63 rfl rfl rfl kkX8_cellAt rfl rfl (by decide) rfl rfl rfl (by decide) ⟨Nat.le_refl _, Nat.le_refl _⟩ (Nat.le_of_ble_eq_true rfl) (o_cellAt γ hT hn rfl e1) (fun v1 S1 I1 J1 hp => ?_)
  obtain ⟨rfl, rfl, rfl, rfl⟩ := hp
  show Rj _ _ _ _ _ _ (5, [some (.ref 63), some (.int y), some (.int (nI n)), none], [.int (-1)], (SS b c), I, J, 0, 0)
  refine r_run okX8_isIn 3 (cs := []) (σ' := (8, [some (.ref 63), some (.int y), some (.int (nI n)), some (.int (-1))], [.int (-1), .int (-1)], (SS b c), I, J, 0, 0)) rfl trivial ?_
  refine r_icmp okX8_isIn rfl (fun (h8 : ((-1) : Int32) = ((-1) : Int32)) => ?_) (fun (h8 : ¬ ((-1) : Int32) = ((-1) : Int32)) => ?_)
  · refine r_run okX8_isIn 1 (cs := []) (σ' := (28, [some (.ref 63), some (.int y), some (.int (nI n)), some (.int (-1))], [.int 0], (SS b c), I, J, 0, 0)) rfl trivial ?_
    refine r_iret okX8_isIn rfl rfl (by decide +kernel) (Nat.le_refl _) (Nat.le_refl _) ?_
    exact ⟨by unfold trI; rw [e0]; rfl, rfl, rfl, rfl⟩
  · exact absurd h8 (by decide)
theorem o_isIn1 (γ : GE) {b c : Bool} {I : AI} {J : AJ} (hT : OTru I) (hM : MTru I) (hL : OLd I) {n : Nat} (hn : n < 720) (y : Int32) {m : Nat} (hm : m < 96) (e0 : I 139 n = nI (m + 1)) : Ct γ mX8_isIn 1 0 0 [.ref 63, .int y, .int (nI n)] (SS b c) I J (rI (bi (trI I n y)) (SS b c) I J) := by
  have e1 : I 139 n - 1 = nI m := by rw [e0]; exact nI_pred m
  refine ct_of okX8_isIn (L := [some (.ref 63), some (.int y), some (.int (nI n)), none]) (Nat.le_of_ble_eq_true rfl) rfl ?_
  refine r_run okX8_isIn 2 (cs := []) (σ' := (2, [some (.ref 63), some (.int y), some (.int (nI n)), none], [.int (nI n), .ref 63], (SS b c), I, J, 0, 0)) rfl trivial ?_
  refine r_callV okX8_isIn okX8_cellAt [.int (nI n)] [] 63 rfl rfl rfl kkX8_cellAt rfl rfl (by decide) rfl rfl rfl (by decide) ⟨Nat.le_refl _, Nat.le_refl _⟩ (Nat.le_of_ble_eq_true rfl) (o_cellAt γ hT hn rfl e1) (fun v1 S1 I1 J1 hp => ?_)
  obtain ⟨rfl, rfl, rfl, rfl⟩ := hp
  show Rj _ _ _ _ _ _ (5, [some (.ref 63), some (.int y), some (.int (nI n)), none], [.int (nI m)], (SS b c), I, J, 0, 0)
  refine r_run okX8_isIn 3 (cs := []) (σ' := (8, [some (.ref 63), some (.int y), some (.int (nI n)), some (.int (nI m))], [.int (-1), .int (nI m)], (SS b c), I, J, 0, 0)) rfl trivial ?_
  refine r_icmp okX8_isIn rfl (fun (h8 : (nI m) = ((-1) : Int32)) => ?_) (fun (h8 : ¬ (nI m) = ((-1) : Int32)) => ?_)
  · exact absurd h8 (nI_m1 (by omega))
  · refine r_run okX8_isIn 3 (cs := []) (σ' := (16, [some (.ref 63), some (.int y), some (.int (nI n)), some (.int (nI m))], [.int (nI m), .ref 1], (SS b c), I, J, 0, 0)) rfl trivial ?_
    refine r_callV okX8_isIn okX2_countyAt [.int (nI m)] [] 1 rfl rfl rfl kkX2_countyAt rfl rfl (by decide) rfl rfl rfl (by decide) ⟨Nat.le_refl _, Nat.le_refl _⟩ (Nat.le_of_ble_eq_true rfl) (o_countyAt γ hL (x := m) (by omega) rfl) (fun v1 S1 I1 J1 hp => ?_)
    obtain ⟨rfl, rfl, rfl, rfl⟩ := hp
    show Rj _ _ _ _ _ _ (19, [some (.ref 63), some (.int y), some (.int (nI n)), some (.int (nI m))], [.int (I 101 m)], (SS b c), I, J, 0, 0)
    refine r_run okX8_isIn 1 (cs := []) (σ' := (20, [some (.ref 63), some (.int y), some (.int (nI n)), some (.int (nI m))], [.int y, .int (I 101 m)], (SS b c), I, J, 0, 0)) rfl trivial ?_
    refine r_icmp okX8_isIn rfl (fun (h20 : ¬ (I 101 m) = y) => ?_) (fun h200 => ?_)
    · refine r_run okX8_isIn 1 (cs := []) (σ' := (28, [some (.ref 63), some (.int y), some (.int (nI n)), some (.int (nI m))], [.int 0], (SS b c), I, J, 0, 0)) rfl trivial ?_
      refine r_iret okX8_isIn rfl rfl (by decide +kernel) (Nat.le_refl _) (Nat.le_refl _) ?_
      exact ⟨by unfold trI; rw [e0, nv_nI (by omega), decide_eq_true (show (0 : Int32) < nI (m + 1) from nI_lt (a := 0) (by omega) (by omega)), Nat.add_sub_cancel, decide_eq_false h20]; rfl, rfl, rfl, rfl⟩
    · have h20 : (I 101 m) = y := Classical.not_not.mp h200
      refine r_run okX8_isIn 2 (cs := []) (σ' := (28, [some (.ref 63), some (.int y), some (.int (nI n)), some (.int (nI m))], [.int 1], (SS b c), I, J, 0, 0)) rfl trivial ?_
      refine r_iret okX8_isIn rfl rfl (by decide +kernel) (Nat.le_refl _) (Nat.le_refl _) ?_
      exact ⟨by unfold trI; rw [e0, nv_nI (by omega), decide_eq_true (show (0 : Int32) < nI (m + 1) from nI_lt (a := 0) (by omega) (by omega)), Nat.add_sub_cancel, decide_eq_true h20]; rfl, rfl, rfl, rfl⟩
theorem o_isIn (γ : GE) {b c : Bool} {I : AI} {J : AJ} (hT : OTru I) (hM : MTru I) (hL : OLd I) {n : Nat} (hn : n < 720) (y : Int32) {X : Int32} (eX : X = nI n) : Ct γ mX8_isIn 1 0 0 [.ref 63, .int y, .int X] (SS b c) I J (rI (bi (trI I n y)) (SS b c) I J) := by
  subst eX
  obtain ⟨m, hm, e⟩ := hM n hn
  match m, hm, e with
  | 0, _, e => exact o_isIn0 γ hT hM hL hn y e
  | m + 1, hm, e => exact o_isIn1 γ hT hM hL hn y (by omega) e
theorem o_isInM (γ : GE) {b c : Bool} {I : AI} {J : AJ} (y : Int32) {x : Int32} (ex : x = -1) : Ct γ mX8_isIn 1 0 0 [.ref 63, .int y, .int x] (SS b c) I J (rI 0 (SS b c) I J) := by
  refine ct_of okX8_isIn (L := [some (.ref 63), some (.int y), some (.int x), none]) (Nat.le_of_ble_eq_true rfl) rfl ?_
  refine r_run okX8_isIn 2 (cs := []) (σ' := (2, [some (.ref 63), some (.int y), some (.int x), none], [.int x, .ref 63], (SS b c), I, J, 0, 0)) rfl trivial ?_
  refine r_callV okX8_isIn okX8_cellAt [.int x] [] 63 rfl rfl rfl kkX8_cellAt rfl rfl (by decide) rfl rfl rfl (by decide) ⟨Nat.le_refl _, Nat.le_refl _⟩ (Nat.le_of_ble_eq_true rfl) (o_cellAtM γ ex) (fun v1 S1 I1 J1 hp => ?_)
  obtain ⟨rfl, rfl, rfl, rfl⟩ := hp
  show Rj _ _ _ _ _ _ (5, [some (.ref 63), some (.int y), some (.int x), none], [.int (-1)], (SS b c), I, J, 0, 0)
  refine r_run okX8_isIn 3 (cs := []) (σ' := (8, [some (.ref 63), some (.int y), some (.int x), some (.int (-1))], [.int (-1), .int (-1)], (SS b c), I, J, 0, 0)) rfl trivial ?_
  refine r_icmp okX8_isIn rfl (fun (h8 : ((-1) : Int32) = ((-1) : Int32)) => ?_) (fun (h8 : ¬ ((-1) : Int32) = ((-1) : Int32)) => ?_)
  · refine r_run okX8_isIn 1 (cs := []) (σ' := (28, [some (.ref 63), some (.int y), some (.int x), some (.int (-1))], [.int 0], (SS b c), I, J, 0, 0)) rfl trivial ?_
    refine r_iret okX8_isIn rfl rfl (by decide +kernel) (Nat.le_refl _) (Nat.le_refl _) ?_
    exact ⟨rfl, rfl, rfl, rfl⟩
  · exact absurd h8 (by decide)
theorem o_enters0 (γ : GE) {b c : Bool} {I : AI} {J : AJ} (hT : OTru I) (hM : MTru I) (hL : OLd I) (y : Int32) : Ct γ mX8_enters 2 0 0 [.ref 63, .int y, .int (nI 0)] (SS b c) I J (rI (bi (enI I 0 y)) (SS b c) I J) := by
  refine ct_of okX8_enters (L := [some (.ref 63), some (.int y), some (.int (nI 0))]) (Nat.le_of_ble_eq_true rfl) rfl ?_
  refine r_run okX8_enters 3 (cs := []) (σ' := (3, [some (.ref 63), some (.int y), some (.int (nI 0))], [.int (nI 0), .int y, .ref 63], (SS b c), I, J, 0, 0)) rfl trivial ?_
  refine r_callV okX8_enters okX8_isIn [.int y, .int (nI 0)] [] 63 rfl rfl rfl kkX8_isIn rfl rfl (by decide) rfl rfl rfl (by decide) ⟨Nat.le_refl _, Nat.le_refl _⟩ (Nat.le_of_ble_eq_true rfl) (o_isIn γ hT hM hL (n := 0) (by omega) y rfl) (fun v1 S1 I1 J1 hp => ?_)
  obtain ⟨rfl, rfl, rfl, rfl⟩ := hp
  show Rj _ _ _ _ _ _ (6, [some (.ref 63), some (.int y), some (.int (nI 0))], [.int (bi (trI I 0 y))], (SS b c), I, J, 0, 0)
  refine r_ifc okX8_enters rfl (fun (h6 : (bi (trI I 0 y)) = (0 : Int32)) => ?_) (fun (h6 : ¬ (bi (trI I 0 y)) = (0 : Int32)) => ?_)
  · refine r_run okX8_enters 1 (cs := []) (σ' := (25, [some (.ref 63), some (.int y), some (.int (nI 0))], [.int 0], (SS b c), I, J, 0, 0)) rfl trivial ?_
    refine r_iret okX8_enters rfl rfl (by decide +kernel) (Nat.le_refl _) (Nat.le_refl _) ?_
    exact ⟨by unfold enI; rw [bi_0.mp h6]; rfl, rfl, rfl, rfl⟩
  · refine r_run okX8_enters 5 (cs := []) (σ' := (14, [some (.ref 63), some (.int y), some (.int (nI 0))], [.int ((nI 0) - 1), .int y, .ref 63], (SS b c), I, J, 0, 0)) rfl trivial ?_
    refine r_callV okX8_enters okX8_isIn [.int y, .int ((nI 0) - 1)] [] 63 rfl rfl rfl kkX8_isIn rfl rfl (by decide) rfl rfl rfl (by decide) ⟨Nat.le_refl _, Nat.le_refl _⟩ (Nat.le_of_ble_eq_true rfl) (o_isInM γ y (by decide)) (fun v1 S1 I1 J1 hp => ?_)
    obtain ⟨rfl, rfl, rfl, rfl⟩ := hp
    show Rj _ _ _ _ _ _ (17, [some (.ref 63), some (.int y), some (.int (nI 0))], [.int 0], (SS b c), I, J, 0, 0)
    refine r_ifc okX8_enters rfl (fun (h17 : ¬ (0 : Int32) = (0 : Int32)) => ?_) (fun h170 => ?_)
    · exact absurd h17 (by decide)
    · have h17 : (0 : Int32) = (0 : Int32) := Classical.not_not.mp h170
      refine r_run okX8_enters 2 (cs := []) (σ' := (25, [some (.ref 63), some (.int y), some (.int (nI 0))], [.int 1], (SS b c), I, J, 0, 0)) rfl trivial ?_
      refine r_iret okX8_enters rfl rfl (by decide +kernel) (Nat.le_refl _) (Nat.le_refl _) ?_
      exact ⟨by unfold enI; rw [bi_n0.mp h6]; rfl, rfl, rfl, rfl⟩
theorem o_enters1 (γ : GE) {b c : Bool} {I : AI} {J : AJ} (hT : OTru I) (hM : MTru I) (hL : OLd I) (y : Int32) {n : Nat} (hn : n + 1 < 720) : Ct γ mX8_enters 2 0 0 [.ref 63, .int y, .int (nI (n + 1))] (SS b c) I J (rI (bi (enI I (n + 1) y)) (SS b c) I J) := by
  refine ct_of okX8_enters (L := [some (.ref 63), some (.int y), some (.int (nI (n + 1)))]) (Nat.le_of_ble_eq_true rfl) rfl ?_
  refine r_run okX8_enters 3 (cs := []) (σ' := (3, [some (.ref 63), some (.int y), some (.int (nI (n + 1)))], [.int (nI (n + 1)), .int y, .ref 63], (SS b c), I, J, 0, 0)) rfl trivial ?_
  refine r_callV okX8_enters okX8_isIn [.int y, .int (nI (n + 1))] [] 63 rfl rfl rfl kkX8_isIn rfl rfl (by decide) rfl rfl rfl (by decide) ⟨Nat.le_refl _, Nat.le_refl _⟩ (Nat.le_of_ble_eq_true rfl) (o_isIn γ hT hM hL (n := (n + 1)) (by omega) y rfl) (fun v1 S1 I1 J1 hp => ?_)
  obtain ⟨rfl, rfl, rfl, rfl⟩ := hp
  show Rj _ _ _ _ _ _ (6, [some (.ref 63), some (.int y), some (.int (nI (n + 1)))], [.int (bi (trI I (n + 1) y))], (SS b c), I, J, 0, 0)
  refine r_ifc okX8_enters rfl (fun (h6 : (bi (trI I (n + 1) y)) = (0 : Int32)) => ?_) (fun (h6 : ¬ (bi (trI I (n + 1) y)) = (0 : Int32)) => ?_)
  · refine r_run okX8_enters 1 (cs := []) (σ' := (25, [some (.ref 63), some (.int y), some (.int (nI (n + 1)))], [.int 0], (SS b c), I, J, 0, 0)) rfl trivial ?_
    refine r_iret okX8_enters rfl rfl (by decide +kernel) (Nat.le_refl _) (Nat.le_refl _) ?_
    exact ⟨by unfold enI; rw [bi_0.mp h6]; rfl, rfl, rfl, rfl⟩
  · refine r_run okX8_enters 5 (cs := []) (σ' := (14, [some (.ref 63), some (.int y), some (.int (nI (n + 1)))], [.int ((nI (n + 1)) - 1), .int y, .ref 63], (SS b c), I, J, 0, 0)) rfl trivial ?_
    refine r_callV okX8_enters okX8_isIn [.int y, .int ((nI (n + 1)) - 1)] [] 63 rfl rfl rfl kkX8_isIn rfl rfl (by decide) rfl rfl rfl (by decide) ⟨Nat.le_refl _, Nat.le_refl _⟩ (Nat.le_of_ble_eq_true rfl) (o_isIn γ hT hM hL (n := n) (by omega) y (nI_pred n)) (fun v1 S1 I1 J1 hp => ?_)
    obtain ⟨rfl, rfl, rfl, rfl⟩ := hp
    show Rj _ _ _ _ _ _ (17, [some (.ref 63), some (.int y), some (.int (nI (n + 1)))], [.int (bi (trI I n y))], (SS b c), I, J, 0, 0)
    refine r_ifc okX8_enters rfl (fun (h17 : ¬ (bi (trI I n y)) = (0 : Int32)) => ?_) (fun h170 => ?_)
    · refine r_run okX8_enters 1 (cs := []) (σ' := (25, [some (.ref 63), some (.int y), some (.int (nI (n + 1)))], [.int 0], (SS b c), I, J, 0, 0)) rfl trivial ?_
      refine r_iret okX8_enters rfl rfl (by decide +kernel) (Nat.le_refl _) (Nat.le_refl _) ?_
      exact ⟨by unfold enI; rw [bi_n0.mp h6]; simp only [bi_n0.mp h17]; rfl, rfl, rfl, rfl⟩
    · have h17 : (bi (trI I n y)) = (0 : Int32) := Classical.not_not.mp h170
      refine r_run okX8_enters 2 (cs := []) (σ' := (25, [some (.ref 63), some (.int y), some (.int (nI (n + 1)))], [.int 1], (SS b c), I, J, 0, 0)) rfl trivial ?_
      refine r_iret okX8_enters rfl rfl (by decide +kernel) (Nat.le_refl _) (Nat.le_refl _) ?_
      exact ⟨by unfold enI; rw [bi_n0.mp h6]; simp only [bi_0.mp h17]; rfl, rfl, rfl, rfl⟩
theorem o_enters (γ : GE) {b c : Bool} {I : AI} {J : AJ} (hT : OTru I) (hM : MTru I) (hL : OLd I) {n : Nat} (hn : n < 720) (y : Int32) : Ct γ mX8_enters 2 0 0 [.ref 63, .int y, .int (nI n)] (SS b c) I J (rI (bi (enI I n y)) (SS b c) I J) := by
  match n, hn with
  | 0, _ => exact o_enters0 γ hT hM hL y
  | n + 1, hn => exact o_enters1 γ hT hM hL y hn
theorem o_found0z (γ : GE) {b c : Bool} {I : AI} {J : AJ} (hO : OWar I J) (hI : MWar I) (hD : WDis I) (hT : OTru I) (hM : MTru I) (hL : OLd I) (e0 : I 139 0 = nI 0) : Ct γ mX8_foundAt 2 0 0 [.ref 63, .int (nI 0)] (SS b c) I J (fun rt S' I' J' => some (.int (fdV I 0)) = rt ∧ (SS b c) = S' ∧ I = I' ∧ kJ [62] J J') := by
  have e1 : I 139 0 - 1 = -1 := by rw [e0]; rfl
  refine ct_of okX8_foundAt (L := [some (.ref 63), some (.int (nI 0)), none]) (Nat.le_of_ble_eq_true rfl) rfl ?_
  refine r_run okX8_foundAt 2 (cs := []) (σ' := (2, [some (.ref 63), some (.int (nI 0)), none], [.int (nI 0), .ref 63], (SS b c), I, J, 0, 0)) rfl trivial ?_
  refine r_callV okX8_foundAt okX8_cellAt [.int (nI 0)] [] 63 rfl rfl rfl kkX8_cellAt rfl rfl (by decide) rfl rfl rfl (by decide) ⟨Nat.le_refl _, Nat.le_refl _⟩ (Nat.le_of_ble_eq_true rfl) (o_cellAt γ hT (n := 0) (by omega) rfl e1) (fun v1 S1 I1 J1 hp => ?_)
  obtain ⟨rfl, rfl, rfl, rfl⟩ := hp
  show Rj _ _ _ _ _ _ (5, [some (.ref 63), some (.int (nI 0)), none], [.int (-1)], (SS b c), I, J, 0, 0)
  refine r_run okX8_foundAt 3 (cs := []) (σ' := (8, [some (.ref 63), some (.int (nI 0)), some (.int (-1))], [.int (-1), .int (-1)], (SS b c), I, J, 0, 0)) rfl trivial ?_
  refine r_icmp okX8_foundAt rfl (fun (h8 : ((-1) : Int32) = ((-1) : Int32)) => ?_) (fun (h8 : ¬ ((-1) : Int32) = ((-1) : Int32)) => ?_)
  · refine r_run okX8_foundAt 1 (cs := []) (σ' := (23, [some (.ref 63), some (.int (nI 0)), some (.int (-1))], [.int 0], (SS b c), I, J, 0, 0)) rfl trivial ?_
    refine r_iret okX8_foundAt rfl rfl rfl (Nat.le_refl _) (Nat.le_refl _) ?_
    exact ⟨by unfold fdV; rw [if_pos (Or.inl (e0.trans nI_0))], rfl, rfl, kJ_r⟩
  · exact absurd h8 (by decide)
theorem o_found0s (γ : GE) {b c : Bool} {I : AI} {J : AJ} (hO : OWar I J) (hI : MWar I) (hD : WDis I) (hT : OTru I) (hM : MTru I) (hL : OLd I) {m : Nat} (hm : m < 96) (e0 : I 139 0 = nI (m + 1)) : Ct γ mX8_foundAt 2 0 0 [.ref 63, .int (nI 0)] (SS b c) I J (fun rt S' I' J' => some (.int (fdV I 0)) = rt ∧ (SS b c) = S' ∧ I = I' ∧ kJ [62] J J') := by
  have e1 : I 139 0 - 1 = nI m := by rw [e0]; exact nI_pred m
  refine ct_of okX8_foundAt (L := [some (.ref 63), some (.int (nI 0)), none]) (Nat.le_of_ble_eq_true rfl) rfl ?_
  refine r_run okX8_foundAt 2 (cs := []) (σ' := (2, [some (.ref 63), some (.int (nI 0)), none], [.int (nI 0), .ref 63], (SS b c), I, J, 0, 0)) rfl trivial ?_
  refine r_callV okX8_foundAt okX8_cellAt [.int (nI 0)] [] 63 rfl rfl rfl kkX8_cellAt rfl rfl (by decide) rfl rfl rfl (by decide) ⟨Nat.le_refl _, Nat.le_refl _⟩ (Nat.le_of_ble_eq_true rfl) (o_cellAt γ hT (n := 0) (by omega) rfl e1) (fun v1 S1 I1 J1 hp => ?_)
  obtain ⟨rfl, rfl, rfl, rfl⟩ := hp
  show Rj _ _ _ _ _ _ (5, [some (.ref 63), some (.int (nI 0)), none], [.int (nI m)], (SS b c), I, J, 0, 0)
  refine r_run okX8_foundAt 3 (cs := []) (σ' := (8, [some (.ref 63), some (.int (nI 0)), some (.int (nI m))], [.int (-1), .int (nI m)], (SS b c), I, J, 0, 0)) rfl trivial ?_
  refine r_icmp okX8_foundAt rfl (fun (h8 : (nI m) = ((-1) : Int32)) => ?_) (fun (h8 : ¬ (nI m) = ((-1) : Int32)) => ?_)
  · exact absurd h8 (nI_m1 (by omega))
  · refine r_run okX8_foundAt 4 (cs := []) (σ' := (15, [some (.ref 63), some (.int (nI 0)), some (.int (nI m))], [.int ((nI 0) - 1), .ref 63], (SS b c), I, J, 0, 0)) rfl trivial ?_
    refine r_callV okX8_foundAt okX8_cellAt [.int ((nI 0) - 1)] [] 63 rfl rfl rfl kkX8_cellAt rfl rfl (by decide) rfl rfl rfl (by decide) ⟨Nat.le_refl _, Nat.le_refl _⟩ (Nat.le_of_ble_eq_true rfl) (o_cellAtM γ (by decide)) (fun v1 S1 I1 J1 hp => ?_)
    obtain ⟨rfl, rfl, rfl, rfl⟩ := hp
    show Rj _ _ _ _ _ _ (18, [some (.ref 63), some (.int (nI 0)), some (.int (nI m))], [.int (-1)], (SS b c), I, J, 0, 0)
    refine r_run okX8_foundAt 1 (cs := []) (σ' := (19, [some (.ref 63), some (.int (nI 0)), some (.int (nI m))], [.int (nI m), .int (-1)], (SS b c), I, J, 0, 0)) rfl trivial ?_
    refine r_icmp okX8_foundAt rfl (fun (h19 : ¬ ((-1) : Int32) = (nI m)) => ?_) (fun h190 => ?_)
    · refine r_run okX8_foundAt 3 (cs := []) (σ' := (29, [some (.ref 63), some (.int (nI 0)), some (.int (nI m))], [.int (nI m), .ref 1], (SS b c), I, J, 0, 0)) rfl trivial ?_
      refine r_callV okX8_foundAt okX2_peopleAt [.int (nI m)] [] 1 rfl rfl rfl kkX2_peopleAt rfl rfl (by decide) rfl rfl rfl (by decide) ⟨Nat.le_refl _, Nat.le_refl _⟩ (Nat.le_of_ble_eq_true rfl) (o_peopleAt γ hL (x := m) (by omega) rfl) (fun v1 S1 I1 J1 hp => ?_)
      obtain ⟨rfl, rfl, rfl, rfl⟩ := hp
      show Rj _ _ _ _ _ _ (32, [some (.ref 63), some (.int (nI 0)), some (.int (nI m))], [.int (I 102 m)], (SS b c), I, J, 0, 0)
      refine r_run okX8_foundAt 4 (cs := []) (σ' := (38, [some (.ref 63), some (.int (nI 0)), some (.int (nI m))], [.int (nI m), .int (nI 0), .ref 52, .int (I 102 m)], (SS b c), I, J, 0, 0)) rfl trivial ?_
      refine r_callV okX8_foundAt okX10_safeAt [.int (nI 0), .int (nI m)] [.int (I 102 m)] 52 rfl rfl rfl kkX10_safeAt rfl rfl (by decide) rfl rfl rfl (by decide) ⟨Nat.le_refl _, Nat.le_refl _⟩ (Nat.le_of_ble_eq_true rfl) (o_safeAt γ hO hI hD hL (x := m) (by omega) (nI 0) rfl) (fun v1 S1 I1 J1 hp => ?_)
      obtain ⟨rfl, rfl, rfl, k3⟩ := hp
      obtain ⟨J3, hJ3⟩ : ∃ z, z = J1 := ⟨_, rfl⟩
      subst hJ3
      show Rj _ _ _ _ _ _ (41, [some (.ref 63), some (.int (nI 0)), some (.int (nI m))], [.int (safV I (nI 0) m), .int (I 102 m)], (SS b c), I, J3, 0, 0)
      refine r_run okX8_foundAt 1 (cs := []) (σ' := (42, [some (.ref 63), some (.int (nI 0)), some (.int (nI m))], [.int ((I 102 m) - (safV I (nI 0) m))], (SS b c), I, J3, 0, 0)) rfl trivial ?_
      refine r_iret okX8_foundAt rfl rfl rfl (Nat.le_refl _) (Nat.le_refl _) ?_
      have hne : ¬ I 139 0 = 0 := fun z => absurd (nI_inj (a := m + 1) (b := 0) (by omega) (by decide) (e0.symm.trans z)) (by omega)
      exact ⟨by unfold fdV; rw [if_neg (fun z => z.elim hne (fun q => absurd q.1 (by decide))), e0, nv_nI (by omega), Nat.add_sub_cancel], rfl, rfl, k3⟩
    · have h19 : ((-1) : Int32) = (nI m) := Classical.not_not.mp h190
      exact absurd h19.symm (nI_m1 (by omega))
theorem o_found1z (γ : GE) {b c : Bool} {I : AI} {J : AJ} (hO : OWar I J) (hI : MWar I) (hD : WDis I) (hT : OTru I) (hM : MTru I) (hL : OLd I) {n : Nat} (hn : n + 1 < 720) (e0 : I 139 (n + 1) = nI 0) : Ct γ mX8_foundAt 2 0 0 [.ref 63, .int (nI (n + 1))] (SS b c) I J (fun rt S' I' J' => some (.int (fdV I (n + 1))) = rt ∧ (SS b c) = S' ∧ I = I' ∧ kJ [62] J J') := by
  have e1 : I 139 (n + 1) - 1 = -1 := by rw [e0]; rfl
  refine ct_of okX8_foundAt (L := [some (.ref 63), some (.int (nI (n + 1))), none]) (Nat.le_of_ble_eq_true rfl) rfl ?_
  refine r_run okX8_foundAt 2 (cs := []) (σ' := (2, [some (.ref 63), some (.int (nI (n + 1))), none], [.int (nI (n + 1)), .ref 63], (SS b c), I, J, 0, 0)) rfl trivial ?_
  refine r_callV okX8_foundAt okX8_cellAt [.int (nI (n + 1))] [] 63 rfl rfl rfl kkX8_cellAt rfl rfl (by decide) rfl rfl rfl (by decide) ⟨Nat.le_refl _, Nat.le_refl _⟩ (Nat.le_of_ble_eq_true rfl) (o_cellAt γ hT (n := (n + 1)) (by omega) rfl e1) (fun v1 S1 I1 J1 hp => ?_)
  obtain ⟨rfl, rfl, rfl, rfl⟩ := hp
  show Rj _ _ _ _ _ _ (5, [some (.ref 63), some (.int (nI (n + 1))), none], [.int (-1)], (SS b c), I, J, 0, 0)
  refine r_run okX8_foundAt 3 (cs := []) (σ' := (8, [some (.ref 63), some (.int (nI (n + 1))), some (.int (-1))], [.int (-1), .int (-1)], (SS b c), I, J, 0, 0)) rfl trivial ?_
  refine r_icmp okX8_foundAt rfl (fun (h8 : ((-1) : Int32) = ((-1) : Int32)) => ?_) (fun (h8 : ¬ ((-1) : Int32) = ((-1) : Int32)) => ?_)
  · refine r_run okX8_foundAt 1 (cs := []) (σ' := (23, [some (.ref 63), some (.int (nI (n + 1))), some (.int (-1))], [.int 0], (SS b c), I, J, 0, 0)) rfl trivial ?_
    refine r_iret okX8_foundAt rfl rfl rfl (Nat.le_refl _) (Nat.le_refl _) ?_
    exact ⟨by unfold fdV; rw [if_pos (Or.inl (e0.trans nI_0))], rfl, rfl, kJ_r⟩
  · exact absurd h8 (by decide)
theorem o_found1s (γ : GE) {b c : Bool} {I : AI} {J : AJ} (hO : OWar I J) (hI : MWar I) (hD : WDis I) (hT : OTru I) (hM : MTru I) (hL : OLd I) {n : Nat} (hn : n + 1 < 720) {m : Nat} (hm : m < 96) (e0 : I 139 (n + 1) = nI (m + 1)) : Ct γ mX8_foundAt 2 0 0 [.ref 63, .int (nI (n + 1))] (SS b c) I J (fun rt S' I' J' => some (.int (fdV I (n + 1))) = rt ∧ (SS b c) = S' ∧ I = I' ∧ kJ [62] J J') := by
  have e1 : I 139 (n + 1) - 1 = nI m := by rw [e0]; exact nI_pred m
  refine ct_of okX8_foundAt (L := [some (.ref 63), some (.int (nI (n + 1))), none]) (Nat.le_of_ble_eq_true rfl) rfl ?_
  refine r_run okX8_foundAt 2 (cs := []) (σ' := (2, [some (.ref 63), some (.int (nI (n + 1))), none], [.int (nI (n + 1)), .ref 63], (SS b c), I, J, 0, 0)) rfl trivial ?_
  refine r_callV okX8_foundAt okX8_cellAt [.int (nI (n + 1))] [] 63 rfl rfl rfl kkX8_cellAt rfl rfl (by decide) rfl rfl rfl (by decide) ⟨Nat.le_refl _, Nat.le_refl _⟩ (Nat.le_of_ble_eq_true rfl) (o_cellAt γ hT (n := (n + 1)) (by omega) rfl e1) (fun v1 S1 I1 J1 hp => ?_)
  obtain ⟨rfl, rfl, rfl, rfl⟩ := hp
  show Rj _ _ _ _ _ _ (5, [some (.ref 63), some (.int (nI (n + 1))), none], [.int (nI m)], (SS b c), I, J, 0, 0)
  refine r_run okX8_foundAt 3 (cs := []) (σ' := (8, [some (.ref 63), some (.int (nI (n + 1))), some (.int (nI m))], [.int (-1), .int (nI m)], (SS b c), I, J, 0, 0)) rfl trivial ?_
  refine r_icmp okX8_foundAt rfl (fun (h8 : (nI m) = ((-1) : Int32)) => ?_) (fun (h8 : ¬ (nI m) = ((-1) : Int32)) => ?_)
  · exact absurd h8 (nI_m1 (by omega))
  · refine r_run okX8_foundAt 4 (cs := []) (σ' := (15, [some (.ref 63), some (.int (nI (n + 1))), some (.int (nI m))], [.int ((nI (n + 1)) - 1), .ref 63], (SS b c), I, J, 0, 0)) rfl trivial ?_
    refine r_callV okX8_foundAt okX8_cellAt [.int ((nI (n + 1)) - 1)] [] 63 rfl rfl rfl kkX8_cellAt rfl rfl (by decide) rfl rfl rfl (by decide) ⟨Nat.le_refl _, Nat.le_refl _⟩ (Nat.le_of_ble_eq_true rfl) (o_cellAt γ hT (n := n) (by omega) (nI_pred n) rfl) (fun v1 S1 I1 J1 hp => ?_)
    obtain ⟨rfl, rfl, rfl, rfl⟩ := hp
    show Rj _ _ _ _ _ _ (18, [some (.ref 63), some (.int (nI (n + 1))), some (.int (nI m))], [.int ((I 139 n) - 1)], (SS b c), I, J, 0, 0)
    refine r_run okX8_foundAt 1 (cs := []) (σ' := (19, [some (.ref 63), some (.int (nI (n + 1))), some (.int (nI m))], [.int (nI m), .int ((I 139 n) - 1)], (SS b c), I, J, 0, 0)) rfl trivial ?_
    refine r_icmp okX8_foundAt rfl (fun (h19 : ¬ ((I 139 n) - 1) = (nI m)) => ?_) (fun h190 => ?_)
    · refine r_run okX8_foundAt 3 (cs := []) (σ' := (29, [some (.ref 63), some (.int (nI (n + 1))), some (.int (nI m))], [.int (nI m), .ref 1], (SS b c), I, J, 0, 0)) rfl trivial ?_
      refine r_callV okX8_foundAt okX2_peopleAt [.int (nI m)] [] 1 rfl rfl rfl kkX2_peopleAt rfl rfl (by decide) rfl rfl rfl (by decide) ⟨Nat.le_refl _, Nat.le_refl _⟩ (Nat.le_of_ble_eq_true rfl) (o_peopleAt γ hL (x := m) (by omega) rfl) (fun v1 S1 I1 J1 hp => ?_)
      obtain ⟨rfl, rfl, rfl, rfl⟩ := hp
      show Rj _ _ _ _ _ _ (32, [some (.ref 63), some (.int (nI (n + 1))), some (.int (nI m))], [.int (I 102 m)], (SS b c), I, J, 0, 0)
      refine r_run okX8_foundAt 4 (cs := []) (σ' := (38, [some (.ref 63), some (.int (nI (n + 1))), some (.int (nI m))], [.int (nI m), .int (nI (n + 1)), .ref 52, .int (I 102 m)], (SS b c), I, J, 0, 0)) rfl trivial ?_
      refine r_callV okX8_foundAt okX10_safeAt [.int (nI (n + 1)), .int (nI m)] [.int (I 102 m)] 52 rfl rfl rfl kkX10_safeAt rfl rfl (by decide) rfl rfl rfl (by decide) ⟨Nat.le_refl _, Nat.le_refl _⟩ (Nat.le_of_ble_eq_true rfl) (o_safeAt γ hO hI hD hL (x := m) (by omega) (nI (n + 1)) rfl) (fun v1 S1 I1 J1 hp => ?_)
      obtain ⟨rfl, rfl, rfl, k3⟩ := hp
      obtain ⟨J3, hJ3⟩ : ∃ z, z = J1 := ⟨_, rfl⟩
      subst hJ3
      show Rj _ _ _ _ _ _ (41, [some (.ref 63), some (.int (nI (n + 1))), some (.int (nI m))], [.int (safV I (nI (n + 1)) m), .int (I 102 m)], (SS b c), I, J3, 0, 0)
      refine r_run okX8_foundAt 1 (cs := []) (σ' := (42, [some (.ref 63), some (.int (nI (n + 1))), some (.int (nI m))], [.int ((I 102 m) - (safV I (nI (n + 1)) m))], (SS b c), I, J3, 0, 0)) rfl trivial ?_
      refine r_iret okX8_foundAt rfl rfl rfl (Nat.le_refl _) (Nat.le_refl _) ?_
      have hne : ¬ I 139 (n + 1) = 0 := fun z => absurd (nI_inj (a := m + 1) (b := 0) (by omega) (by decide) (e0.symm.trans z)) (by omega)
      exact ⟨by unfold fdV; rw [if_neg (fun z => z.elim hne (fun q => h19 (by rw [show I 139 n = I 139 (n + 1) from q.2]; exact e1))), e0, nv_nI (by omega), Nat.add_sub_cancel], rfl, rfl, k3⟩
    · have h19 : ((I 139 n) - 1) = (nI m) := Classical.not_not.mp h190
      refine r_run okX8_foundAt 1 (cs := []) (σ' := (23, [some (.ref 63), some (.int (nI (n + 1))), some (.int (nI m))], [.int 0], (SS b c), I, J, 0, 0)) rfl trivial ?_
      refine r_iret okX8_foundAt rfl rfl rfl (Nat.le_refl _) (Nat.le_refl _) ?_
      exact ⟨by unfold fdV; rw [if_pos (Or.inr ⟨by omega, by show I 139 n = I 139 (n + 1); rw [e0]; have := congrArg (· + 1) h19; simpa [nI_eq1] using this⟩)], rfl, rfl, kJ_r⟩
theorem o_foundAt (γ : GE) {b c : Bool} {I : AI} {J : AJ} (hO : OWar I J) (hI : MWar I) (hD : WDis I) (hT : OTru I) (hM : MTru I) (hL : OLd I) {n : Nat} (hn : n < 720) : Ct γ mX8_foundAt 2 0 0 [.ref 63, .int (nI n)] (SS b c) I J (fun rt S' I' J' => some (.int (fdV I n)) = rt ∧ (SS b c) = S' ∧ I = I' ∧ kJ [62] J J') := by
  obtain ⟨m, hm, e⟩ := hM n hn
  match n, hn, m, hm, e with
  | 0, _, 0, _, e => exact o_found0z γ hO hI hD hT hM hL e
  | 0, _, m + 1, hm, e => exact o_found0s γ hO hI hD hT hM hL (by omega) e
  | n + 1, hn, 0, _, e => exact o_found1z γ hO hI hD hT hM hL hn e
  | n + 1, hn, m + 1, hm, e => exact o_found1s γ hO hI hD hT hM hL hn (by omega) e
theorem lp_pr (γ : GE) {b c : Bool} {I : AI} {J : AJ} (hT : OTru I) (hM : MTru I) (hL : OLd I) {w e : Nat} (he : e < 720) (y : Int32) : ∀ (j q : Nat), (q + j = e ∨ (j = 0 ∧ e ≤ q ∧ q < 720)) → Rj γ mX8_provesRight 2 0 0 (rI (bi (rgtN I y j q)) (SS b c) I J) (30, [some (.ref 63), some (.int (nI w)), some (.int y), some (.int (nI e)), some (.int (nI q))], [], (SS b c), I, J, 0, 0) := by
  intro j
  induction j with
  | zero =>
    intro q hj
    refine r_run okX8_provesRight 2 (cs := []) (σ' := (33, [some (.ref 63), some (.int (nI w)), some (.int y), some (.int (nI e)), some (.int (nI q))], [.int (nI e), .int (nI q)], (SS b c), I, J, 0, 0)) rfl trivial ?_
    refine r_icmp okX8_provesRight rfl (fun (h33 : (nI e) ≤ (nI q)) => ?_) (fun (h33 : ¬ (nI e) ≤ (nI q)) => ?_)
    · refine r_run okX8_provesRight 1 (cs := []) (σ' := (55, [some (.ref 63), some (.int (nI w)), some (.int y), some (.int (nI e)), some (.int (nI q))], [.int 0], (SS b c), I, J, 0, 0)) rfl trivial ?_
      refine r_iret okX8_provesRight rfl rfl (by decide +kernel) (Nat.le_refl _) (Nat.le_refl _) ?_
      exact ⟨rfl, rfl, rfl, rfl⟩
    · exact absurd (nI_le (by omega) (by omega)) h33
  | succ j ih =>
    intro q hj
    refine r_run okX8_provesRight 2 (cs := []) (σ' := (33, [some (.ref 63), some (.int (nI w)), some (.int y), some (.int (nI e)), some (.int (nI q))], [.int (nI e), .int (nI q)], (SS b c), I, J, 0, 0)) rfl trivial ?_
    refine r_icmp okX8_provesRight rfl (fun (h33 : (nI e) ≤ (nI q)) => ?_) (fun (h33 : ¬ (nI e) ≤ (nI q)) => ?_)
    · exact absurd h33 (nI_ge (by omega) (by omega))
    · refine r_run okX8_provesRight 3 (cs := []) (σ' := (40, [some (.ref 63), some (.int (nI w)), some (.int y), some (.int (nI e)), some (.int (nI q))], [.int (nI q), .int y, .ref 63], (SS b c), I, J, 0, 0)) rfl trivial ?_
      refine r_callV okX8_provesRight okX8_isIn [.int y, .int (nI q)] [] 63 rfl rfl rfl kkX8_isIn rfl rfl (by decide) rfl rfl rfl (by decide) ⟨Nat.le_refl _, Nat.le_refl _⟩ (Nat.le_of_ble_eq_true rfl) (o_isIn γ hT hM hL (n := q) (by omega) y rfl) (fun v1 S1 I1 J1 hp => ?_)
      obtain ⟨rfl, rfl, rfl, rfl⟩ := hp
      show Rj _ _ _ _ _ _ (43, [some (.ref 63), some (.int (nI w)), some (.int y), some (.int (nI e)), some (.int (nI q))], [.int (bi (trI I q y))], (SS b c), I, J, 0, 0)
      refine r_ifc okX8_provesRight rfl (fun (h43 : (bi (trI I q y)) = (0 : Int32)) => ?_) (fun (h43 : ¬ (bi (trI I q y)) = (0 : Int32)) => ?_)
      · refine r_run okX8_provesRight 2 (cs := []) (σ' := (30, [some (.ref 63), some (.int (nI w)), some (.int y), some (.int (nI e)), some (.int ((nI q) + 1))], [], (SS b c), I, J, 0, 0)) rfl trivial ?_
        rw [nI_eq1, rgtN, bi_0.mp h43, Bool.false_or]
        exact ih (q + 1) (by omega)
      · refine r_run okX8_provesRight 1 (cs := []) (σ' := (47, [some (.ref 63), some (.int (nI w)), some (.int y), some (.int (nI e)), some (.int (nI q))], [.int 1], (SS b c), I, J, 0, 0)) rfl trivial ?_
        refine r_iret okX8_provesRight rfl rfl (by decide +kernel) (Nat.le_refl _) (Nat.le_refl _) ?_
        rw [rgtN, bi_n0.mp h43, Bool.true_or]
        exact ⟨rfl, rfl, rfl, rfl⟩
theorem o_proves (γ : GE) {b c : Bool} {I : AI} {J : AJ} (hO : OWar I J) (hI : MWar I) (hD : WDis I) (hT : OTru I) (hM : MTru I) (hL : OLd I) {w : Nat} (hw : w < nv (I 100 45)) {a e : Nat} (he : e < 720) (ha : a < 720) (ea : I 128 w = nI a) (ee : I 129 w = nI e) : Ct γ mX8_provesRight 2 0 0 [.ref 63, .int (nI w)] (SS b c) I J (rI (bi (rgt I w)) (SS b c) I J) := by
  have h45 := rg_nv hI.1 (by decide)
  have hin : inB (nI w) 0 (I 100 45 - 1) = true := by
    rw [h45.2, show nI (nv (I 100 45)) - 1 = nI (nv (I 100 45) - 1) from nI_prd (by omega)]
    exact inB_t.mpr ⟨nI_pos' (by omega), nI_le (by omega) (by omega)⟩
  have t0 : wngV I (nI w) 0 = I 127 w := by unfold wngV; rw [hin]; simp [nv_nI (show w < 2 ^ 31 by omega)]
  have t2 : wngV I (nI w) 2 = nI e := by unfold wngV; rw [hin]; simp [nv_nI (show w < 2 ^ 31 by omega), ee]
  refine ct_of okX8_provesRight (L := [some (.ref 63), some (.int (nI w)), none, none, none]) (Nat.le_of_ble_eq_true rfl) rfl ?_
  refine r_run okX8_provesRight 4 (cs := []) (σ' := (6, [some (.ref 63), some (.int (nI w)), none, none, none], [.int 0, .int (nI w), .ref 52], (SS b c), I, J, 0, 0)) rfl trivial ?_
  refine r_callV okX8_provesRight okX10_tell [.int (nI w), .int 0] [] 52 rfl rfl rfl kkX10_tell rfl rfl (by decide) rfl rfl rfl (by decide) ⟨Nat.le_refl _, Nat.le_refl _⟩ (Nat.le_of_ble_eq_true rfl) (o_tell γ hO hI (nI w) 0) (fun v1 S1 I1 J1 hp => ?_)
  obtain ⟨rfl, rfl, rfl, rfl⟩ := hp
  show Rj _ _ _ _ _ _ (9, [some (.ref 63), some (.int (nI w)), none, none, none], [.int (wngV I (nI w) 0)], (SS b c), I, J, 0, 0)
  simp only [t0]
  show Rj _ _ _ _ _ _ (9, [some (.ref 63), some (.int (nI w)), none, none, none], [.int (I 127 w)], (SS b c), I, J, 0, 0)
  refine r_run okX8_provesRight 5 (cs := []) (σ' := (16, [some (.ref 63), some (.int (nI w)), some (.int (I 127 w)), none, none], [.int 2, .int (nI w), .ref 52], (SS b c), I, J, 0, 0)) rfl trivial ?_
  refine r_callV okX8_provesRight okX10_tell [.int (nI w), .int 2] [] 52 rfl rfl rfl kkX10_tell rfl rfl (by decide) rfl rfl rfl (by decide) ⟨Nat.le_refl _, Nat.le_refl _⟩ (Nat.le_of_ble_eq_true rfl) (o_tell γ hO hI (nI w) 2) (fun v1 S1 I1 J1 hp => ?_)
  obtain ⟨rfl, rfl, rfl, rfl⟩ := hp
  show Rj _ _ _ _ _ _ (19, [some (.ref 63), some (.int (nI w)), some (.int (I 127 w)), none, none], [.int (wngV I (nI w) 2)], (SS b c), I, J, 0, 0)
  simp only [t2]
  show Rj _ _ _ _ _ _ (19, [some (.ref 63), some (.int (nI w)), some (.int (I 127 w)), none, none], [.int (nI e)], (SS b c), I, J, 0, 0)
  refine r_run okX8_provesRight 4 (cs := []) (σ' := (25, [some (.ref 63), some (.int (nI w)), some (.int (I 127 w)), some (.int (nI e)), none], [.int (nI w), .ref 52], (SS b c), I, J, 0, 0)) rfl trivial ?_
  refine r_callV okX8_provesRight okX10_beginOf [.int (nI w)] [] 52 rfl rfl rfl kkX10_beginOf rfl rfl (by decide) rfl rfl rfl (by decide) ⟨Nat.le_refl _, Nat.le_refl _⟩ (Nat.le_of_ble_eq_true rfl) (o_beginOf γ hO hI hw) (fun v1 S1 I1 J1 hp => ?_)
  obtain ⟨rfl, rfl, rfl, rfl⟩ := hp
  show Rj _ _ _ _ _ _ (28, [some (.ref 63), some (.int (nI w)), some (.int (I 127 w)), some (.int (nI e)), none], [.int (I 128 w)], (SS b c), I, J, 0, 0)
  simp only [ea]
  show Rj _ _ _ _ _ _ (28, [some (.ref 63), some (.int (nI w)), some (.int (I 127 w)), some (.int (nI e)), none], [.int (nI a)], (SS b c), I, J, 0, 0)
  refine r_run okX8_provesRight 1 (cs := []) (σ' := (30, [some (.ref 63), some (.int (nI w)), some (.int (I 127 w)), some (.int (nI e)), some (.int (nI a))], [], (SS b c), I, J, 0, 0)) rfl trivial ?_
  rw [rgt, ea, ee, nv_nI (by omega), nv_nI (by omega)]
  exact lp_pr γ hT hM hL he (I 127 w) (e - a) a (by omega)
