/-! ===== StormOffice: judge ===== -/
theorem j_tell0 (γ : GE) {b c : Bool} {I : AI} {J : AJ} (e11 : I 52 11 = I 100 45) (h45 : rg 201 (I 100 45)) {w : Nat} (hw : w < nv (I 100 45)) (e53 : I 53 w = I 127 w) (e54 : I 54 w = I 128 w) (e55 : I 55 w = I 129 w) : Ct γ mX10_tell 0 0 0 [.ref 52, .int (nI w), .int 0] (SS b c) I J (rI (I 127 w) (SS b c) I J) := by
  have h45 := rg_nv h45 (by decide)
  have hw2 : w < 200 := by have := h45.1; omega
  have cw : (nI w).toNatClampNeg = w := nI_clamp (by omega)
  refine ct_of okX10_tell (L := [some (.ref 52), some (.int (nI w)), some (.int 0)]) (Nat.le_of_ble_eq_true rfl) rfl ?_
  refine r_run okX10_tell 1 (cs := []) (σ' := (1, [some (.ref 52), some (.int (nI w)), some (.int 0)], [.int (nI w)], (SS b c), I, J, 0, 0)) rfl trivial ?_
  refine r_ifc okX10_tell rfl (fun (h1 : (nI w) < (0 : Int32)) => ?_) (fun (h1 : ¬ (nI w) < (0 : Int32)) => ?_)
  · exact absurd h1 (nI_pos (by omega))
  · refine r_run okX10_tell 3 (cs := []) (σ' := (9, [some (.ref 52), some (.int (nI w)), some (.int 0)], [.int (I 52 11), .int (nI w)], (SS b c), I, J, 0, 0)) rfl trivial ?_
    simp only [e11]
    show Rj _ _ _ _ _ _ (9, [some (.ref 52), some (.int (nI w)), some (.int 0)], [.int (I 100 45), .int (nI w)], (SS b c), I, J, 0, 0)
    refine r_icmp okX10_tell rfl (fun (h9 : (nI w) < (I 100 45)) => ?_) (fun (h9 : ¬ (nI w) < (I 100 45)) => ?_)
    · refine r_run okX10_tell 1 (cs := []) (σ' := (15, [some (.ref 52), some (.int (nI w)), some (.int 0)], [.int 0], (SS b c), I, J, 0, 0)) rfl trivial ?_
      refine r_tblIn okX10_tell rfl (by decide) (by decide) (off := 33) (tgt := 48) rfl rfl ?_
      show Rj _ _ _ _ _ _ (48, [some (.ref 52), some (.int (nI w)), some (.int 0)], [], (SS b c), I, J, 0, 0)
      refine r_run okX10_tell 4 (cs := [vp_in (nI w) 200]) (σ' := (54, [some (.ref 52), some (.int (nI w)), some (.int 0)], [.int (I 53 ((nI w).toNatClampNeg))], (SS b c), I, J, 0, 0)) rfl ⟨(vin hw2 (by decide)), trivial⟩ ?_
      simp only [cw, e53]
      show Rj _ _ _ _ _ _ (54, [some (.ref 52), some (.int (nI w)), some (.int 0)], [.int (I 127 w)], (SS b c), I, J, 0, 0)
      refine r_iret okX10_tell rfl rfl rfl (Nat.le_refl _) (Nat.le_refl _) ?_
      exact ⟨rfl, rfl, rfl, rfl⟩
    · exact absurd (by rw [h45.2]; exact nI_lt hw (by omega)) h9
theorem j_tell2 (γ : GE) {b c : Bool} {I : AI} {J : AJ} (e11 : I 52 11 = I 100 45) (h45 : rg 201 (I 100 45)) {w : Nat} (hw : w < nv (I 100 45)) (e53 : I 53 w = I 127 w) (e54 : I 54 w = I 128 w) (e55 : I 55 w = I 129 w) : Ct γ mX10_tell 0 0 0 [.ref 52, .int (nI w), .int 2] (SS b c) I J (rI (I 129 w) (SS b c) I J) := by
  have h45 := rg_nv h45 (by decide)
  have hw2 : w < 200 := by have := h45.1; omega
  have cw : (nI w).toNatClampNeg = w := nI_clamp (by omega)
  refine ct_of okX10_tell (L := [some (.ref 52), some (.int (nI w)), some (.int 2)]) (Nat.le_of_ble_eq_true rfl) rfl ?_
  refine r_run okX10_tell 1 (cs := []) (σ' := (1, [some (.ref 52), some (.int (nI w)), some (.int 2)], [.int (nI w)], (SS b c), I, J, 0, 0)) rfl trivial ?_
  refine r_ifc okX10_tell rfl (fun (h1 : (nI w) < (0 : Int32)) => ?_) (fun (h1 : ¬ (nI w) < (0 : Int32)) => ?_)
  · exact absurd h1 (nI_pos (by omega))
  · refine r_run okX10_tell 3 (cs := []) (σ' := (9, [some (.ref 52), some (.int (nI w)), some (.int 2)], [.int (I 52 11), .int (nI w)], (SS b c), I, J, 0, 0)) rfl trivial ?_
    simp only [e11]
    show Rj _ _ _ _ _ _ (9, [some (.ref 52), some (.int (nI w)), some (.int 2)], [.int (I 100 45), .int (nI w)], (SS b c), I, J, 0, 0)
    refine r_icmp okX10_tell rfl (fun (h9 : (nI w) < (I 100 45)) => ?_) (fun (h9 : ¬ (nI w) < (I 100 45)) => ?_)
    · refine r_run okX10_tell 1 (cs := []) (σ' := (15, [some (.ref 52), some (.int (nI w)), some (.int 2)], [.int 2], (SS b c), I, J, 0, 0)) rfl trivial ?_
      refine r_tblIn okX10_tell rfl (by decide) (by decide) (off := 47) (tgt := 62) rfl rfl ?_
      show Rj _ _ _ _ _ _ (62, [some (.ref 52), some (.int (nI w)), some (.int 2)], [], (SS b c), I, J, 0, 0)
      refine r_run okX10_tell 4 (cs := [vp_in (nI w) 200]) (σ' := (68, [some (.ref 52), some (.int (nI w)), some (.int 2)], [.int (I 55 ((nI w).toNatClampNeg))], (SS b c), I, J, 0, 0)) rfl ⟨(vin hw2 (by decide)), trivial⟩ ?_
      simp only [cw, e55]
      show Rj _ _ _ _ _ _ (68, [some (.ref 52), some (.int (nI w)), some (.int 2)], [.int (I 129 w)], (SS b c), I, J, 0, 0)
      refine r_iret okX10_tell rfl rfl rfl (Nat.le_refl _) (Nat.le_refl _) ?_
      exact ⟨rfl, rfl, rfl, rfl⟩
    · exact absurd (by rw [h45.2]; exact nI_lt hw (by omega)) h9
theorem j_beginOf (γ : GE) {b c : Bool} {I : AI} {J : AJ} (e11 : I 52 11 = I 100 45) (h45 : rg 201 (I 100 45)) {w : Nat} (hw : w < nv (I 100 45)) (e53 : I 53 w = I 127 w) (e54 : I 54 w = I 128 w) (e55 : I 55 w = I 129 w) : Ct γ mX10_beginOf 0 0 0 [.ref 52, .int (nI w)] (SS b c) I J (rI (I 128 w) (SS b c) I J) := by
  have h45 := rg_nv h45 (by decide)
  have hw2 : w < 200 := by have := h45.1; omega
  have cw : (nI w).toNatClampNeg = w := nI_clamp (by omega)
  refine ct_of okX10_beginOf (L := [some (.ref 52), some (.int (nI w))]) (Nat.le_of_ble_eq_true rfl) rfl ?_
  refine r_run okX10_beginOf 4 (cs := [vp_in (nI w) 200]) (σ' := (6, [some (.ref 52), some (.int (nI w))], [.int (I 54 ((nI w).toNatClampNeg))], (SS b c), I, J, 0, 0)) rfl ⟨(vin hw2 (by decide)), trivial⟩ ?_
  simp only [cw, e54]
  show Rj _ _ _ _ _ _ (6, [some (.ref 52), some (.int (nI w))], [.int (I 128 w)], (SS b c), I, J, 0, 0)
  refine r_iret okX10_beginOf rfl rfl rfl (Nat.le_refl _) (Nat.le_refl _) ?_
  exact ⟨rfl, rfl, rfl, rfl⟩
theorem j_proves (γ : GE) {b c : Bool} {I : AI} {J : AJ} (e11 : I 52 11 = I 100 45) (h45 : rg 201 (I 100 45)) {w : Nat} (hw : w < nv (I 100 45)) (e53 : I 53 w = I 127 w) (e54 : I 54 w = I 128 w) (e55 : I 55 w = I 129 w) (hT : OTru I) (hM : MTru I) (hL : OLd I) {a e : Nat} (he : e < 720) (ha : a < 720) (ea : I 128 w = nI a) (ee : I 129 w = nI e) : Ct γ mX8_provesRight 2 0 0 [.ref 63, .int (nI w)] (SS b c) I J (rI (bi (rgt I w)) (SS b c) I J) := by
  refine ct_of okX8_provesRight (L := [some (.ref 63), some (.int (nI w)), none, none, none]) (Nat.le_of_ble_eq_true rfl) rfl ?_
  refine r_run okX8_provesRight 4 (cs := []) (σ' := (6, [some (.ref 63), some (.int (nI w)), none, none, none], [.int 0, .int (nI w), .ref 52], (SS b c), I, J, 0, 0)) rfl trivial ?_
  refine r_callV okX8_provesRight okX10_tell [.int (nI w), .int 0] [] 52 rfl rfl rfl kkX10_tell rfl rfl (by decide) rfl rfl rfl (by decide) ⟨Nat.le_refl _, Nat.le_refl _⟩ (Nat.le_of_ble_eq_true rfl) (j_tell0 γ e11 h45 hw e53 e54 e55) (fun v1 S1 I1 J1 hp => ?_)
  obtain ⟨rfl, rfl, rfl, rfl⟩ := hp
  show Rj _ _ _ _ _ _ (9, [some (.ref 63), some (.int (nI w)), none, none, none], [.int (I 127 w)], (SS b c), I, J, 0, 0)
  refine r_run okX8_provesRight 5 (cs := []) (σ' := (16, [some (.ref 63), some (.int (nI w)), some (.int (I 127 w)), none, none], [.int 2, .int (nI w), .ref 52], (SS b c), I, J, 0, 0)) rfl trivial ?_
  refine r_callV okX8_provesRight okX10_tell [.int (nI w), .int 2] [] 52 rfl rfl rfl kkX10_tell rfl rfl (by decide) rfl rfl rfl (by decide) ⟨Nat.le_refl _, Nat.le_refl _⟩ (Nat.le_of_ble_eq_true rfl) (j_tell2 γ e11 h45 hw e53 e54 e55) (fun v1 S1 I1 J1 hp => ?_)
  obtain ⟨rfl, rfl, rfl, rfl⟩ := hp
  show Rj _ _ _ _ _ _ (19, [some (.ref 63), some (.int (nI w)), some (.int (I 127 w)), none, none], [.int (I 129 w)], (SS b c), I, J, 0, 0)
  simp only [ee]
  show Rj _ _ _ _ _ _ (19, [some (.ref 63), some (.int (nI w)), some (.int (I 127 w)), none, none], [.int (nI e)], (SS b c), I, J, 0, 0)
  refine r_run okX8_provesRight 4 (cs := []) (σ' := (25, [some (.ref 63), some (.int (nI w)), some (.int (I 127 w)), some (.int (nI e)), none], [.int (nI w), .ref 52], (SS b c), I, J, 0, 0)) rfl trivial ?_
  refine r_callV okX8_provesRight okX10_beginOf [.int (nI w)] [] 52 rfl rfl rfl kkX10_beginOf rfl rfl (by decide) rfl rfl rfl (by decide) ⟨Nat.le_refl _, Nat.le_refl _⟩ (Nat.le_of_ble_eq_true rfl) (j_beginOf γ e11 h45 hw e53 e54 e55) (fun v1 S1 I1 J1 hp => ?_)
  obtain ⟨rfl, rfl, rfl, rfl⟩ := hp
  show Rj _ _ _ _ _ _ (28, [some (.ref 63), some (.int (nI w)), some (.int (I 127 w)), some (.int (nI e)), none], [.int (I 128 w)], (SS b c), I, J, 0, 0)
  simp only [ea]
  show Rj _ _ _ _ _ _ (28, [some (.ref 63), some (.int (nI w)), some (.int (I 127 w)), some (.int (nI e)), none], [.int (nI a)], (SS b c), I, J, 0, 0)
  refine r_run okX8_provesRight 1 (cs := []) (σ' := (30, [some (.ref 63), some (.int (nI w)), some (.int (I 127 w)), some (.int (nI e)), some (.int (nI a))], [], (SS b c), I, J, 0, 0)) rfl trivial ?_
  rw [rgt, ea, ee, nv_nI (by omega), nv_nI (by omega)]
  exact lp_pr γ hT hM hL he (I 127 w) (e - a) a (by omega)
theorem j_isDue (γ : GE) {b c : Bool} {I : AI} {J : AJ} (e11 : I 52 11 = I 100 45) (h45 : rg 201 (I 100 45)) {w : Nat} (hw : w < nv (I 100 45)) (e53 : I 53 w = I 127 w) (e54 : I 54 w = I 128 w) (e55 : I 55 w = I 129 w) {v : Int32} (e57 : I 57 w = v) (x : Int32) : Ct γ mX10_isDue 0 0 0 [.ref 52, .int (nI w), .int x] (SS b c) I J (rI (bi (decide (v = 0) && decide (I 129 w ≤ x))) (SS b c) I J) := by
  have h45 := rg_nv h45 (by decide)
  have hw2 : w < 200 := by have := h45.1; omega
  have cw : (nI w).toNatClampNeg = w := nI_clamp (by omega)
  refine ct_of okX10_isDue (L := [some (.ref 52), some (.int (nI w)), some (.int x)]) (Nat.le_of_ble_eq_true rfl) rfl ?_
  refine r_run okX10_isDue 1 (cs := []) (σ' := (1, [some (.ref 52), some (.int (nI w)), some (.int x)], [.int (nI w)], (SS b c), I, J, 0, 0)) rfl trivial ?_
  refine r_ifc okX10_isDue rfl (fun (h1 : (nI w) < (0 : Int32)) => ?_) (fun (h1 : ¬ (nI w) < (0 : Int32)) => ?_)
  · exact absurd h1 (nI_pos (by omega))
  · refine r_run okX10_isDue 3 (cs := []) (σ' := (9, [some (.ref 52), some (.int (nI w)), some (.int x)], [.int (I 52 11), .int (nI w)], (SS b c), I, J, 0, 0)) rfl trivial ?_
    simp only [e11]
    show Rj _ _ _ _ _ _ (9, [some (.ref 52), some (.int (nI w)), some (.int x)], [.int (I 100 45), .int (nI w)], (SS b c), I, J, 0, 0)
    refine r_icmp okX10_isDue rfl (fun (h9 : (I 100 45) ≤ (nI w)) => ?_) (fun (h9 : ¬ (I 100 45) ≤ (nI w)) => ?_)
    · exact absurd h9 (by rw [h45.2]; exact nI_ge hw (by omega))
    · refine r_run okX10_isDue 4 (cs := [vp_in (nI w) 200]) (σ' := (18, [some (.ref 52), some (.int (nI w)), some (.int x)], [.int (I 57 ((nI w).toNatClampNeg))], (SS b c), I, J, 0, 0)) rfl ⟨(vin hw2 (by decide)), trivial⟩ ?_
      simp only [cw, e57]
      show Rj _ _ _ _ _ _ (18, [some (.ref 52), some (.int (nI w)), some (.int x)], [.int v], (SS b c), I, J, 0, 0)
      refine r_ifc okX10_isDue rfl (fun (h18 : ¬ v = (0 : Int32)) => ?_) (fun h180 => ?_)
      · refine r_run okX10_isDue 1 (cs := []) (σ' := (36, [some (.ref 52), some (.int (nI w)), some (.int x)], [.int 0], (SS b c), I, J, 0, 0)) rfl trivial ?_
        refine r_iret okX10_isDue rfl rfl (by decide +kernel) (Nat.le_refl _) (Nat.le_refl _) ?_
        exact ⟨by rw [decide_eq_false h18]; rfl, rfl, rfl, rfl⟩
      · have h18 : v = (0 : Int32) := Classical.not_not.mp h180
        refine r_run okX10_isDue 5 (cs := [vp_in (nI w) 200]) (σ' := (28, [some (.ref 52), some (.int (nI w)), some (.int x)], [.int x, .int (I 55 ((nI w).toNatClampNeg))], (SS b c), I, J, 0, 0)) rfl ⟨(vin hw2 (by decide)), trivial⟩ ?_
        simp only [cw, e55]
        show Rj _ _ _ _ _ _ (28, [some (.ref 52), some (.int (nI w)), some (.int x)], [.int x, .int (I 129 w)], (SS b c), I, J, 0, 0)
        refine r_icmp okX10_isDue rfl (fun (h28 : x < (I 129 w)) => ?_) (fun (h28 : ¬ x < (I 129 w)) => ?_)
        · refine r_run okX10_isDue 1 (cs := []) (σ' := (36, [some (.ref 52), some (.int (nI w)), some (.int x)], [.int 0], (SS b c), I, J, 0, 0)) rfl trivial ?_
          refine r_iret okX10_isDue rfl rfl (by decide +kernel) (Nat.le_refl _) (Nat.le_refl _) ?_
          exact ⟨by rw [decide_eq_false (Int32.not_le.mpr h28), Bool.and_false]; rfl, rfl, rfl, rfl⟩
        · refine r_run okX10_isDue 2 (cs := []) (σ' := (36, [some (.ref 52), some (.int (nI w)), some (.int x)], [.int 1], (SS b c), I, J, 0, 0)) rfl trivial ?_
          refine r_iret okX10_isDue rfl rfl (by decide +kernel) (Nat.le_refl _) (Nat.le_refl _) ?_
          exact ⟨by rw [decide_eq_true h18, decide_eq_true (Int32.not_lt.mp h28)]; rfl, rfl, rfl, rfl⟩
def stJ (I : AI) (w k : Nat) (z : Bool) : AI := upI (upI I 57 w (if z then 1 else 2)) 61 k (if z then (if I 61 k + 5 < 100 then I 61 k + 5 else 100) else (if 10 < I 61 k - 10 then I 61 k - 10 else 10))
theorem j_settle (γ : GE) {b c : Bool} {I : AI} {J : AJ} (e11 : I 52 11 = I 100 45) (h45 : rg 201 (I 100 45)) {w : Nat} (hw : w < nv (I 100 45)) (e53 : I 53 w = I 127 w) (e54 : I 54 w = I 128 w) (e55 : I 55 w = I 129 w) {k : Nat} (hk : k < 8) (ek : I 127 w = nI k) (z : Bool) : Ct γ mX10_settle 0 0 0 [.ref 52, .int (nI w), .int (bi z)] (SS b c) I J (rV (SS b c) (stJ I w k z) J) := by
  have h45 := rg_nv h45 (by decide)
  have hw2 : w < 200 := by have := h45.1; omega
  have cw : (nI w).toNatClampNeg = w := nI_clamp (by omega)
  have ck : (nI k).toNatClampNeg = k := nI_clamp (by omega)
  have e53k := e53.trans ek
  refine ct_of okX10_settle (L := [some (.ref 52), some (.int (nI w)), some (.int (bi z)), none]) (Nat.le_of_ble_eq_true rfl) rfl ?_
  refine r_run okX10_settle 9 (cs := [vp_in (nI w) 200]) (σ' := (13, [some (.ref 52), some (.int (nI w)), some (.int (bi z)), some (.int (I 53 ((nI w).toNatClampNeg)))], [.int (bi z), .int (nI w), .ref 57], (SS b c), I, J, 0, 0)) rfl ⟨(vin hw2 (by decide)), trivial⟩ ?_
  simp only [cw, e53k]
  show Rj _ _ _ _ _ _ (13, [some (.ref 52), some (.int (nI w)), some (.int (bi z)), some (.int (nI k))], [.int (bi z), .int (nI w), .ref 57], (SS b c), I, J, 0, 0)
  refine r_ifc okX10_settle rfl (fun (h13 : (bi z) = (0 : Int32)) => ?_) (fun (h13 : ¬ (bi z) = (0 : Int32)) => ?_)
  · have hz := bi_0.mp h13
    refine r_run okX10_settle 6 (cs := [vp_in (nI w) 200]) (σ' := (28, [some (.ref 52), some (.int (nI w)), some (.int (bi z)), some (.int (nI k))], [.int (bi z), .int (nI k), .ref 61], (SS b c), (upI I 57 ((nI w).toNatClampNeg) 2), J, 0, 0)) rfl ⟨(vin hw2 (by decide)), trivial⟩ ?_
    simp only [cw]
    show Rj _ _ _ _ _ _ (28, [some (.ref 52), some (.int (nI w)), some (.int (bi z)), some (.int (nI k))], [.int (bi z), .int (nI k), .ref 61], (SS b c), (upI I 57 w 2), J, 0, 0)
    refine r_ifc okX10_settle rfl (fun (h28 : (bi z) = (0 : Int32)) => ?_) (fun (h28 : ¬ (bi z) = (0 : Int32)) => ?_)
    · refine r_run okX10_settle 7 (cs := [vp_in (nI k) 8]) (σ' := (58, [some (.ref 52), some (.int (nI w)), some (.int (bi z)), some (.int (nI k))], [.int ((I 61 ((nI k).toNatClampNeg)) - 10), .int 10, .int (nI k), .ref 61], (SS b c), (upI I 57 w 2), J, 0, 0)) rfl ⟨(vin hk (by decide)), trivial⟩ ?_
      simp only [ck]
      show Rj _ _ _ _ _ _ (58, [some (.ref 52), some (.int (nI w)), some (.int (bi z)), some (.int (nI k))], [.int ((I 61 k) - 10), .int 10, .int (nI k), .ref 61], (SS b c), (upI I 57 w 2), J, 0, 0)
      refine r_mmax okX10_settle rfl rfl ⟨Nat.le_refl _, Nat.le_refl _⟩ (Nat.le_of_ble_eq_true rfl) ?_
      show Rj _ _ _ _ _ _ (61, [some (.ref 52), some (.int (nI w)), some (.int (bi z)), some (.int (nI k))], [.int (if 10 < ((I 61 k) - 10) then ((I 61 k) - 10) else 10), .int (nI k), .ref 61], (SS b c), (upI I 57 w 2), J, 0, 0)
      refine r_run okX10_settle 1 (cs := [vp_in (nI k) 8]) (σ' := (62, [some (.ref 52), some (.int (nI w)), some (.int (bi z)), some (.int (nI k))], [], (SS b c), (upI (upI I 57 w 2) 61 ((nI k).toNatClampNeg) (if 10 < ((I 61 k) - 10) then ((I 61 k) - 10) else 10)), J, 0, 0)) rfl ⟨(vin hk (by decide)), trivial⟩ ?_
      simp only [ck]
      show Rj _ _ _ _ _ _ (62, [some (.ref 52), some (.int (nI w)), some (.int (bi z)), some (.int (nI k))], [], (SS b c), (upI (upI I 57 w 2) 61 k (if 10 < ((I 61 k) - 10) then ((I 61 k) - 10) else 10)), J, 0, 0)
      refine r_vret okX10_settle rfl rfl (Nat.le_refl _) (Nat.le_refl _) ?_
      exact ⟨rfl, rfl, by unfold stJ; rw [hz]; rfl, rfl⟩
    · exact absurd ((bi_n0.mp h28).symm.trans hz) (by decide)
  · have hz := bi_n0.mp h13
    refine r_run okX10_settle 7 (cs := [vp_in (nI w) 200]) (σ' := (28, [some (.ref 52), some (.int (nI w)), some (.int (bi z)), some (.int (nI k))], [.int (bi z), .int (nI k), .ref 61], (SS b c), (upI I 57 ((nI w).toNatClampNeg) 1), J, 0, 0)) rfl ⟨(vin hw2 (by decide)), trivial⟩ ?_
    simp only [cw]
    show Rj _ _ _ _ _ _ (28, [some (.ref 52), some (.int (nI w)), some (.int (bi z)), some (.int (nI k))], [.int (bi z), .int (nI k), .ref 61], (SS b c), (upI I 57 w 1), J, 0, 0)
    refine r_ifc okX10_settle rfl (fun (h28_1 : (bi z) = (0 : Int32)) => ?_) (fun (h28_1 : ¬ (bi z) = (0 : Int32)) => ?_)
    · exact absurd ((bi_0.mp h28_1).symm.trans hz) (by decide)
    · refine r_run okX10_settle 7 (cs := [vp_in (nI k) 8]) (σ' := (41, [some (.ref 52), some (.int (nI w)), some (.int (bi z)), some (.int (nI k))], [.int ((I 61 ((nI k).toNatClampNeg)) + 5), .int 100, .int (nI k), .ref 61], (SS b c), (upI I 57 w 1), J, 0, 0)) rfl ⟨(vin hk (by decide)), trivial⟩ ?_
      simp only [ck]
      show Rj _ _ _ _ _ _ (41, [some (.ref 52), some (.int (nI w)), some (.int (bi z)), some (.int (nI k))], [.int ((I 61 k) + 5), .int 100, .int (nI k), .ref 61], (SS b c), (upI I 57 w 1), J, 0, 0)
      refine r_mmin okX10_settle rfl rfl ⟨Nat.le_refl _, Nat.le_refl _⟩ (Nat.le_of_ble_eq_true rfl) ?_
      show Rj _ _ _ _ _ _ (44, [some (.ref 52), some (.int (nI w)), some (.int (bi z)), some (.int (nI k))], [.int (if ((I 61 k) + 5) < 100 then ((I 61 k) + 5) else 100), .int (nI k), .ref 61], (SS b c), (upI I 57 w 1), J, 0, 0)
      refine r_run okX10_settle 2 (cs := [vp_in (nI k) 8]) (σ' := (62, [some (.ref 52), some (.int (nI w)), some (.int (bi z)), some (.int (nI k))], [], (SS b c), (upI (upI I 57 w 1) 61 ((nI k).toNatClampNeg) (if ((I 61 k) + 5) < 100 then ((I 61 k) + 5) else 100)), J, 0, 0)) rfl ⟨(vin hk (by decide)), trivial⟩ ?_
      simp only [ck]
      show Rj _ _ _ _ _ _ (62, [some (.ref 52), some (.int (nI w)), some (.int (bi z)), some (.int (nI k))], [], (SS b c), (upI (upI I 57 w 1) 61 k (if ((I 61 k) + 5) < 100 then ((I 61 k) + 5) else 100)), J, 0, 0)
      refine r_vret okX10_settle rfl rfl (Nat.le_refl _) (Nat.le_refl _) ?_
      exact ⟨rfl, rfl, by unfold stJ; rw [hz]; rfl, rfl⟩
theorem j_size (γ : GE) {b c : Bool} {I : AI} {J : AJ} (e11 : I 52 11 = I 100 45) : Ct γ mX10_size 0 0 0 [.ref 52] (SS b c) I J (rI (I 100 45) (SS b c) I J) := by
  refine ct_of okX10_size (L := [some (.ref 52)]) (Nat.le_of_ble_eq_true rfl) rfl ?_
  refine r_run okX10_size 2 (cs := []) (σ' := (4, [some (.ref 52)], [.int (I 52 11)], (SS b c), I, J, 0, 0)) rfl trivial ?_
  simp only [e11]
  show Rj _ _ _ _ _ _ (4, [some (.ref 52)], [.int (I 100 45)], (SS b c), I, J, 0, 0)
  refine r_iret okX10_size rfl rfl rfl (Nat.le_refl _) (Nat.le_refl _) ?_
  exact ⟨rfl, rfl, rfl, rfl⟩
def MEar (I : AI) : Prop := ∀ k, k < 8 → ∃ v, 10 ≤ v ∧ v ≤ 100 ∧ I 133 k = nI v
/-- judging: the office's cells follow what the reference's become -/
def JR (I Ik Mk : AI) : Prop := (∀ a, ¬ a ∈ [57, 61] → Ik a = I a) ∧ (∀ a, ¬ a ∈ [131, 133] → Mk a = I a) ∧ (∀ u, u < nv (I 100 45) → Ik 57 u = Mk 131 u ∧ rg 3 (Mk 131 u)) ∧ (∀ k, k < 8 → Ik 61 k = Mk 133 k) ∧ MEar Mk
theorem rgtN_k {I M : AI} (h1 : M 139 = I 139) (h2 : M 101 = I 101) (y : Int32) : ∀ j t, rgtN M y j t = rgtN I y j t
  | 0, _ => rfl
  | j + 1, t => by unfold rgtN trI; rw [h1, h2, rgtN_k h1 h2 y j]
theorem ear_up : ∀ v, v < 101 → 10 ≤ v → ∀ z : Bool, clE (nI v + (if z then 5 else -10)) = (if z then (if nI v + 5 < 100 then nI v + 5 else 100) else (if 10 < nI v - 10 then nI v - 10 else 10)) ∧ ∃ u, u < 101 ∧ 10 ≤ u ∧ clE (nI v + (if z then 5 else -10)) = nI u := by
  intro v hv h z
  have h1 : ∀ v, v < 101 → 10 ≤ v → ∀ z : Bool, clE (nI v + (if z then 5 else -10)) = (if z then (if nI v + 5 < 100 then nI v + 5 else 100) else (if 10 < nI v - 10 then nI v - 10 else 10)) := by decide +kernel
  have h2 : ∀ v, v < 101 → 10 ≤ v → ∀ z : Bool, clE (nI v + (if z then 5 else -10)) = nI (nv (clE (nI v + (if z then 5 else -10)))) ∧ nv (clE (nI v + (if z then 5 else -10))) < 101 ∧ 10 ≤ nv (clE (nI v + (if z then 5 else -10))) := by decide +kernel
  exact ⟨h1 v hv h z, _, (h2 v hv h z).2.1, (h2 v hv h z).2.2, (h2 v hv h z).1⟩
theorem JR_s {I Ik Mk : AI} (h : JR I Ik Mk) {w k : Nat} (hk : k < 8) (ek : I 127 w = nI k) : JR I (stJ Ik w k (rgt I w)) (jdN Mk w) := by
  obtain ⟨h1, h2, h3, h4, h5⟩ := h
  have er : rgt Mk w = rgt I w := by
    unfold rgt; rw [h2 127 (by decide), h2 128 (by decide), h2 129 (by decide)]; exact rgtN_k (h2 139 (by decide)) (h2 101 (by decide)) _ _ _
  have ek2 : nv (Mk 127 w) = k := by rw [h2 127 (by decide), ek, nv_nI (by omega)]
  obtain ⟨v, a1, a2, a3⟩ := h5 k hk
  obtain ⟨b1, u, b2, b3, b4⟩ := ear_up v (by omega) a1 (rgt I w)
  refine ⟨fun a q => ?_, fun a q => ?_, fun u' hu => ?_, fun i hi => ?_, fun i hi => ?_⟩
  · unfold stJ; simp at q; rw [upI_ne q.2, upI_ne q.1]; exact h1 a (by simp; exact q)
  · unfold jdN; simp at q; rw [upI_ne q.1, upI_ne q.2]; exact h2 a (by simp; exact q)
  · have e1 : stJ Ik w k (rgt I w) 57 u' = upI Ik 57 w (if rgt I w then 1 else 2) 57 u' := by unfold stJ; rw [upI_ne (by decide)]
    have e2 : jdN Mk w 131 u' = upI Mk 131 w (if rgt I w then 1 else 2) 131 u' := by unfold jdN; rw [er]; unfold upI; rfl
    rw [e1, e2]
    by_cases e : u' = w
    · subst e; rw [upI_s, upI_s]; refine ⟨rfl, ?_⟩; cases rgt I u'
      · exact ⟨2, by decide, rfl⟩
      · exact ⟨1, by decide, rfl⟩
    · rw [upI_n e, upI_n e]; exact h3 u' hu
  · have e2 : jdN Mk w 133 i = upI Mk 133 k (clE (Mk 133 k + (if rgt I w then 5 else -10))) 133 i := by unfold jdN; rw [er, ek2, upI_ne (by decide)]
    rw [e2]; unfold stJ
    by_cases e : i = k
    · subst e; rw [upI_s, upI_s, h4 i hk, a3]; exact b1.symm
    · rw [upI_n e, upI_n e, upI_ne (by decide)]; exact h4 i hi
  · have e2 : jdN Mk w 133 i = upI Mk 133 k (clE (Mk 133 k + (if rgt I w then 5 else -10))) 133 i := by unfold jdN; rw [er, ek2, upI_ne (by decide)]
    rw [e2]
    by_cases e : i = k
    · subst e; rw [upI_s, a3]; exact ⟨u, b3, by omega, b4⟩
    · rw [upI_n e]; exact h5 i hi
theorem due_e {x e n : Int32} (hx : rg 3 x) : (decide (x = 0) && decide (e ≤ n)) = (decide (e ≤ n) && decide (x ≤ 0)) := by
  obtain ⟨k, hk, rfl⟩ := hx
  have : decide (nI k = 0) = decide (nI k ≤ 0) := by
    rcases (by omega : k = 0 ∨ k = 1 ∨ k = 2) with rfl | rfl | rfl <;> decide
  rw [this, Bool.and_comm]
theorem j_duX (γ : GE) {b c : Bool} {I : AI} {J : AJ} (e11 : I 52 11 = I 100 45) (h45 : rg 201 (I 100 45)) {w : Nat} (hw : w < nv (I 100 45)) (e53 : I 53 w = I 127 w) (e54 : I 54 w = I 128 w) (e55 : I 55 w = I 129 w) {v x : Int32} (e57 : I 57 w = v) {z : Bool} (ez : (decide (v = 0) && decide (I 129 w ≤ x)) = z) : Ct γ mX10_isDue 0 0 0 [.ref 52, .int (nI w), .int x] (SS b c) I J (rI (bi z) (SS b c) I J) := by
  subst ez; exact j_isDue γ e11 h45 hw e53 e54 e55 e57 x
theorem j_prX (γ : GE) {b c : Bool} {I : AI} {J : AJ} (e11 : I 52 11 = I 100 45) (h45 : rg 201 (I 100 45)) {w : Nat} (hw : w < nv (I 100 45)) (e53 : I 53 w = I 127 w) (e54 : I 54 w = I 128 w) (e55 : I 55 w = I 129 w) (hT : OTru I) (hM : MTru I) (hL : OLd I) {a e : Nat} (he : e < 720) (ha : a < 720) (ea : I 128 w = nI a) (ee : I 129 w = nI e) {z : Bool} (ez : rgt I w = z) : Ct γ mX8_provesRight 2 0 0 [.ref 63, .int (nI w)] (SS b c) I J (rI (bi z) (SS b c) I J) := by
  subst ez; exact j_proves γ e11 h45 hw e53 e54 e55 hT hM hL he ha ea ee
theorem lp_ojdg (γ : GE) {b c : Bool} {I : AI} {J : AJ} (hN : ONow I) (hO : OWar I J) (hI : MWar I) (hT : OTru I) (hM : MTru I) (hL : OLd I) : ∀ (j w n : Nat) (Ik Mk : AI), w + j = nv (I 100 45) → JR I Ik Mk → Rj γ mX11_judge 3 0 0 (fun rt S' I' J' => some (.int (nI (jdS j w n Mk).2)) = rt ∧ (SS b c) = S' ∧ JR I I' (jdS j w n Mk).1 ∧ J = J') (4, [some (.ref 0), some (.int (nI n)), some (.int (nI w))], [], (SS b c), Ik, J, 0, 0) := by
  intro j
  induction j with
  | zero =>
    intro w n Ik Mk hj hR
    obtain ⟨h1, h2, h3, h4, h5⟩ := id hR
    have e11 : Ik 52 11 = Ik 100 45 := by rw [h1 52 (by decide), h1 100 (by decide)]; exact hO.1
    have n45 := rg_nv hI.1 (by decide)
    have e45 : Ik 100 45 = nI (nv (I 100 45)) := by rw [h1 100 (by decide)]; exact n45.2
    refine r_run okX11_judge 3 (cs := []) (σ' := (9, [some (.ref 0), some (.int (nI n)), some (.int (nI w))], [.ref 52, .int (nI w)], (SS b c), Ik, J, 0, 0)) rfl trivial ?_
    refine r_callV okX11_judge okX10_size [] [.int (nI w)] 52 rfl rfl rfl kkX10_size rfl rfl (by decide) rfl rfl rfl (by decide) ⟨Nat.le_refl _, Nat.le_refl _⟩ (Nat.le_of_ble_eq_true rfl) (j_size γ e11) (fun v1 S1 I1 J1 hp => ?_)
    obtain ⟨rfl, rfl, rfl, rfl⟩ := hp
    show Rj _ _ _ _ _ _ (12, [some (.ref 0), some (.int (nI n)), some (.int (nI w))], [.int (Ik 100 45), .int (nI w)], (SS b c), Ik, J, 0, 0)
    simp only [e45]
    show Rj _ _ _ _ _ _ (12, [some (.ref 0), some (.int (nI n)), some (.int (nI w))], [.int (nI (nv (I 100 45))), .int (nI w)], (SS b c), Ik, J, 0, 0)
    refine r_icmp okX11_judge rfl (fun (h12 : (nI (nv (I 100 45))) ≤ (nI w)) => ?_) (fun (h12 : ¬ (nI (nv (I 100 45))) ≤ (nI w)) => ?_)
    · refine r_run okX11_judge 1 (cs := []) (σ' := (56, [some (.ref 0), some (.int (nI n)), some (.int (nI w))], [.int (nI n)], (SS b c), Ik, J, 0, 0)) rfl trivial ?_
      refine r_iret okX11_judge rfl rfl rfl (Nat.le_refl _) (Nat.le_refl _) ?_
      exact ⟨rfl, rfl, hR, rfl⟩
    · exact absurd (nI_le (a := nv (I 100 45)) (b := w) (by omega) (by omega)) h12
  | succ j ih =>
    intro w n Ik Mk hj hR
    obtain ⟨h1, h2, h3, h4, h5⟩ := id hR
    have e11 : Ik 52 11 = Ik 100 45 := by rw [h1 52 (by decide), h1 100 (by decide)]; exact hO.1
    have n45 := rg_nv hI.1 (by decide)
    have e45 : Ik 100 45 = nI (nv (I 100 45)) := by rw [h1 100 (by decide)]; exact n45.2
    have hw : w < nv (I 100 45) := by omega
    have h45 : rg 201 (Ik 100 45) := by rw [h1 100 (by decide)]; exact hI.1
    have hwk : w < nv (Ik 100 45) := by rw [h1 100 (by decide)]; exact hw
    obtain ⟨a53, a54, a55, _⟩ := hO.2.1 w hw
    have e53 : Ik 53 w = Ik 127 w := by rw [h1 53 (by decide), h1 127 (by decide)]; exact a53
    have e54 : Ik 54 w = Ik 128 w := by rw [h1 54 (by decide), h1 128 (by decide)]; exact a54
    have e55 : Ik 55 w = Ik 129 w := by rw [h1 55 (by decide), h1 129 (by decide)]; exact a55
    have hdu : (decide (Mk 131 w = 0) && decide (Ik 129 w ≤ Ik 0 15)) = dueB Mk w := by
      rw [due_e (h3 w hw).2]; unfold dueB; rw [h1 129 (by decide), h1 0 (by decide), h2 129 (by decide), h2 100 (by decide), hN.1]
    have hrg : rgt Ik w = rgt I w := by
      unfold rgt; rw [h1 127 (by decide), h1 128 (by decide), h1 129 (by decide)]; exact rgtN_k (h1 139 (by decide)) (h1 101 (by decide)) _ _ _
    obtain ⟨⟨k, hk, ek⟩, ⟨a, ha, ea⟩, ⟨e, he, ee⟩, _⟩ := hI.2.2.2 w hw
    refine r_run okX11_judge 3 (cs := []) (σ' := (9, [some (.ref 0), some (.int (nI n)), some (.int (nI w))], [.ref 52, .int (nI w)], (SS b c), Ik, J, 0, 0)) rfl trivial ?_
    refine r_callV okX11_judge okX10_size [] [.int (nI w)] 52 rfl rfl rfl kkX10_size rfl rfl (by decide) rfl rfl rfl (by decide) ⟨Nat.le_refl _, Nat.le_refl _⟩ (Nat.le_of_ble_eq_true rfl) (j_size γ e11) (fun v1 S1 I1 J1 hp => ?_)
    obtain ⟨rfl, rfl, rfl, rfl⟩ := hp
    show Rj _ _ _ _ _ _ (12, [some (.ref 0), some (.int (nI n)), some (.int (nI w))], [.int (Ik 100 45), .int (nI w)], (SS b c), Ik, J, 0, 0)
    simp only [e45]
    show Rj _ _ _ _ _ _ (12, [some (.ref 0), some (.int (nI n)), some (.int (nI w))], [.int (nI (nv (I 100 45))), .int (nI w)], (SS b c), Ik, J, 0, 0)
    refine r_icmp okX11_judge rfl (fun (h12 : (nI (nv (I 100 45))) ≤ (nI w)) => ?_) (fun (h12 : ¬ (nI (nv (I 100 45))) ≤ (nI w)) => ?_)
    · exact absurd h12 (nI_ge (a := w) (b := nv (I 100 45)) (by omega) (by omega))
    · refine r_run okX11_judge 5 (cs := []) (σ' := (24, [some (.ref 0), some (.int (nI n)), some (.int (nI w))], [.int (Ik 0 15), .int (nI w), .ref 52], (SS b c), Ik, J, 0, 0)) rfl trivial ?_
      refine r_callV okX11_judge okX10_isDue [.int (nI w), .int (Ik 0 15)] [] 52 rfl rfl rfl kkX10_isDue rfl rfl (by decide) rfl rfl rfl (by decide) ⟨Nat.le_refl _, Nat.le_refl _⟩ (Nat.le_of_ble_eq_true rfl) (j_duX γ e11 h45 hwk e53 e54 e55 (h3 w hw).1 hdu) (fun v1 S1 I1 J1 hp => ?_)
      obtain ⟨rfl, rfl, rfl, rfl⟩ := hp
      show Rj _ _ _ _ _ _ (27, [some (.ref 0), some (.int (nI n)), some (.int (nI w))], [.int (bi (dueB Mk w))], (SS b c), Ik, J, 0, 0)
      refine r_ifc okX11_judge rfl (fun (h27 : (bi (dueB Mk w)) = (0 : Int32)) => ?_) (fun (h27 : ¬ (bi (dueB Mk w)) = (0 : Int32)) => ?_)
      · have hd := bi_0.mp h27
        refine r_run okX11_judge 2 (cs := []) (σ' := (4, [some (.ref 0), some (.int (nI n)), some (.int ((nI w) + 1))], [], (SS b c), Ik, J, 0, 0)) rfl trivial ?_
        rw [nI_eq1]
        have h := ih (w + 1) n Ik Mk (by omega) hR
        rw [jdS, if_neg (show ¬ dueB Mk w = true by rw [hd]; decide)]
        exact h
      · have hd := bi_n0.mp h27
        have he7 : e < 720 := by
          have q : I 129 w ≤ I 100 5 := by
            unfold dueB at hd; rw [Bool.and_eq_true] at hd
            have := of_decide_eq_true hd.1
            rw [h2 129 (by decide), h2 100 (by decide)] at this; exact this
          have n5 := rg_nv hI.2.1 (by decide)
          rw [ee, n5.2] at q
          exact Nat.lt_of_le_of_lt (Nat.le_of_not_lt fun z => absurd q (nI_ge z (by omega))) n5.1
        refine r_run okX11_judge 6 (cs := []) (σ' := (40, [some (.ref 0), some (.int (nI n)), some (.int (nI w))], [.int (nI w), .ref 63, .int (nI w), .ref 52], (SS b c), Ik, J, 0, 0)) rfl trivial ?_
        refine r_callV okX11_judge okX8_provesRight [.int (nI w)] [.int (nI w), .ref 52] 63 rfl rfl rfl kkX8_provesRight rfl rfl (by decide) rfl rfl rfl (by decide) ⟨Nat.le_refl _, Nat.le_refl _⟩ (Nat.le_of_ble_eq_true rfl) (j_prX γ e11 h45 hwk e53 e54 e55 (OTru_k (h1 64 (by decide)) (h1 139 (by decide)) hT) (by unfold MTru; rw [h1 139 (by decide)]; exact hM) (OLd_k (fun a q => h1 a (by simp; omega)) hL) he7 ha (by rw [h1 128 (by decide)]; exact ea) (by rw [h1 129 (by decide)]; exact ee) hrg) (fun v1 S1 I1 J1 hp => ?_)
        obtain ⟨rfl, rfl, rfl, rfl⟩ := hp
        show Rj _ _ _ _ _ _ (43, [some (.ref 0), some (.int (nI n)), some (.int (nI w))], [.int (bi (rgt I w)), .int (nI w), .ref 52], (SS b c), Ik, J, 0, 0)
        refine r_callV okX11_judge okX10_settle [.int (nI w), .int (bi (rgt I w))] [] 52 rfl rfl rfl kkX10_settle rfl rfl (by decide) rfl rfl rfl (by decide) ⟨Nat.le_refl _, Nat.le_refl _⟩ (Nat.le_of_ble_eq_true rfl) (j_settle γ e11 h45 hwk e53 e54 e55 hk (by rw [h1 127 (by decide)]; exact ek) (rgt I w)) (fun v1 S1 I1 J1 hp => ?_)
        obtain ⟨rfl, rfl, rfl, rfl⟩ := hp
        show Rj _ _ _ _ _ _ (46, [some (.ref 0), some (.int (nI n)), some (.int (nI w))], [], (SS b c), (stJ Ik w k (rgt I w)), J, 0, 0)
        refine r_run okX11_judge 3 (cs := []) (σ' := (4, [some (.ref 0), some (.int ((nI n) + 1)), some (.int ((nI w) + 1))], [], (SS b c), (stJ Ik w k (rgt I w)), J, 0, 0)) rfl trivial ?_
        rw [nI_eq1, nI_eq1]
        have h := ih (w + 1) (n + 1) _ _ (by omega) (JR_s hR hk ek)
        rw [jdS, if_pos hd]
        exact h
theorem o_judge (γ : GE) {b c : Bool} {I : AI} {J : AJ} (hN : ONow I) (hO : OWar I J) (hI : MWar I) (hT : OTru I) (hM : MTru I) (hL : OLd I) (hE : MEar I) : Ct γ mX11_judge 3 0 0 [.ref 0] (SS b c) I J (fun rt S' I' J' => some (.int (jdgV I)) = rt ∧ (SS b c) = S' ∧ JR I I' (jdgN I) ∧ J = J') := by
  refine ct_of okX11_judge (L := [some (.ref 0), none, none]) (Nat.le_of_ble_eq_true rfl) rfl ?_
  refine r_run okX11_judge 4 (cs := []) (σ' := (4, [some (.ref 0), some (.int 0), some (.int 0)], [], (SS b c), I, J, 0, 0)) rfl trivial ?_
  exact lp_ojdg γ hN hO hI hT hM hL (nv (I 100 45)) 0 0 I I (by omega) ⟨fun _ _ => rfl, fun _ _ => rfl, fun u hu => ⟨(hO.2.1 u hu).2.2.2.2.1, (hI.2.2.2 u hu).2.2.2.2⟩, fun k hk => (hO.2.2 k hk).1, hE⟩
