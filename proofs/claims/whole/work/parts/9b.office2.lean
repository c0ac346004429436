/-! ===== StormOffice: of, tellings, maybe, count, quarrel ===== -/
theorem kn_sp {I : AI} (hO : OTel I) (k : Int32) : ∀ i, i < nv (I 100 13) → (i < knN I k (nv (I 100 13)) ↔ I 115 i ≤ k) := knN_sp (fun i hi j hj => (hO.2.2.2 i hi).2 j hj)
theorem kn_lt {I : AI} (hT : MTel I) (k : Int32) : knN I k (nv (I 100 13)) < 301 := Nat.lt_of_le_of_lt knN_le (rg_nv hT.1 (by decide)).1
def rtsN (I : AI) (x : Nat) : Nat → Int32
  | 0 => 0
  | n + 1 => if seesB I n x then rtsN I x n ||| ((1 : Int32) <<< (nI n &&& 31)) else rtsN I x n
theorem rts_eq {I : AI} {x : Nat} : rtsN I x 3 = seersV I x := by
  unfold seersV rtsN rtsN rtsN rtsN
  cases seesB I 0 x <;> cases seesB I 1 x <;> cases seesB I 2 x <;> decide
theorem lp_rts (γ : GE) {b c : Bool} {I : AI} {J : AJ} (hR : ORad I J) {x : Nat} (hx : x < 96) : ∀ (j q : Nat), q + j = 3 → Rj γ mX11_radarsThatSee 1 0 0 (rI (seersV I x) (SS b c) I J) (4, [some (.ref 0), some (.int (nI x)), some (.int (rtsN I x q)), some (.int (nI q))], [], (SS b c), I, J, 0, 0) := by
  intro j
  induction j with
  | zero =>
    intro q hj
    refine r_run okX11_radarsThatSee 2 (cs := []) (σ' := (6, [some (.ref 0), some (.int (nI x)), some (.int (rtsN I x q)), some (.int (nI q))], [.int 3, .int (nI q)], (SS b c), I, J, 0, 0)) rfl trivial ?_
    refine r_icmp okX11_radarsThatSee rfl (fun (h6 : (3 : Int32) ≤ (nI q)) => ?_) (fun (h6 : ¬ (3 : Int32) ≤ (nI q)) => ?_)
    · refine r_run okX11_radarsThatSee 1 (cs := []) (σ' := (38, [some (.ref 0), some (.int (nI x)), some (.int (rtsN I x q)), some (.int (nI q))], [.int (rtsN I x q)], (SS b c), I, J, 0, 0)) rfl trivial ?_
      refine r_iret okX11_radarsThatSee rfl rfl rfl (Nat.le_refl _) (Nat.le_refl _) ?_
      have e : q = 3 := by omega
      subst e
      exact ⟨by rw [rts_eq], rfl, rfl, rfl⟩
    · exact absurd (nI_le (a := 3) (b := q) (by omega) (by omega)) h6
  | succ j ih =>
    intro q hj
    refine r_run okX11_radarsThatSee 2 (cs := []) (σ' := (6, [some (.ref 0), some (.int (nI x)), some (.int (rtsN I x q)), some (.int (nI q))], [.int 3, .int (nI q)], (SS b c), I, J, 0, 0)) rfl trivial ?_
    refine r_icmp okX11_radarsThatSee rfl (fun (h6 : (3 : Int32) ≤ (nI q)) => ?_) (fun (h6 : ¬ (3 : Int32) ≤ (nI q)) => ?_)
    · exact absurd h6 (nI_ge (a := q) (b := 3) (by omega) (by decide))
    · refine r_run okX11_radarsThatSee 3 (cs := []) (σ' := (14, [some (.ref 0), some (.int (nI x)), some (.int (rtsN I x q)), some (.int (nI q))], [.int (nI q), .ref 16], (SS b c), I, J, 0, 0)) rfl trivial ?_
      refine r_aald okX11_radarsThatSee rfl rfl (vin (by omega) (by decide)) (by first | exact Or.inl rfl | exact Or.inr rfl) (L16 q (by omega)) ?_
      show Rj _ _ _ _ _ _ (15, [some (.ref 0), some (.int (nI x)), some (.int (rtsN I x q)), some (.int (nI q))], [.ref (17 + 4 * q)], (SS b c), I, J, 0, 0)
      refine r_getf okX11_radarsThatSee rfl rfl (SSr (by omega)) rfl rfl ?_
      show Rj _ _ _ _ _ _ (18, [some (.ref 0), some (.int (nI x)), some (.int (rtsN I x q)), some (.int (nI q))], [.ref (18 + 4 * q)], (SS b c), I, J, 0, 0)
      refine r_run okX11_radarsThatSee 1 (cs := []) (σ' := (19, [some (.ref 0), some (.int (nI x)), some (.int (rtsN I x q)), some (.int (nI q))], [.int (nI x), .ref (18 + 4 * q)], (SS b c), I, J, 0, 0)) rfl trivial ?_
      refine r_callV okX11_radarsThatSee okX0_has [.int (nI x)] [] (18 + 4 * q) rfl rfl rfl kkX0_has rfl rfl (by decide) (SSs (by omega)) rfl rfl (by decide) ⟨Nat.le_refl _, Nat.le_refl _⟩ (Nat.le_of_ble_eq_true rfl) (a_has γ (SSs (by omega)) (hR q (by omega)).2.2.1 (x := x) hx rfl) (fun v1 S1 I1 J1 hp => ?_)
      obtain ⟨rfl, rfl, rfl, rfl⟩ := hp
      show Rj _ _ _ _ _ _ (22, [some (.ref 0), some (.int (nI x)), some (.int (rtsN I x q)), some (.int (nI q))], [.int (bi ((seesB I q) x))], (SS b c), I, J, 0, 0)
      refine r_ifc okX11_radarsThatSee rfl (fun (h22 : (bi ((seesB I q) x)) = (0 : Int32)) => ?_) (fun (h22 : ¬ (bi ((seesB I q) x)) = (0 : Int32)) => ?_)
      · refine r_run okX11_radarsThatSee 2 (cs := []) (σ' := (4, [some (.ref 0), some (.int (nI x)), some (.int (rtsN I x q)), some (.int ((nI q) + 1))], [], (SS b c), I, J, 0, 0)) rfl trivial ?_
        rw [nI_eq1]
        have h := ih (q + 1) (by omega)
        rw [rtsN, bi_0.mp h22] at h
        exact h
      · refine r_run okX11_radarsThatSee 8 (cs := []) (σ' := (4, [some (.ref 0), some (.int (nI x)), some (.int ((rtsN I x q) ||| ((1 : Int32) <<< ((nI q) &&& 31)))), some (.int ((nI q) + 1))], [], (SS b c), I, J, 0, 0)) rfl trivial ?_
        rw [nI_eq1]
        have h := ih (q + 1) (by omega)
        rw [rtsN, bi_n0.mp h22] at h
        exact h
theorem o_rts (γ : GE) {b c : Bool} {I : AI} {J : AJ} (hR : ORad I J) {x : Nat} (hx : x < 96) : Ct γ mX11_radarsThatSee 1 0 0 [.ref 0, .int (nI x)] (SS b c) I J (rI (seersV I x) (SS b c) I J) := by
  refine ct_of okX11_radarsThatSee (L := [some (.ref 0), some (.int (nI x)), none, none]) (Nat.le_of_ble_eq_true rfl) rfl ?_
  refine r_run okX11_radarsThatSee 4 (cs := []) (σ' := (4, [some (.ref 0), some (.int (nI x)), some (.int 0), some (.int 0)], [], (SS b c), I, J, 0, 0)) rfl trivial ?_
  exact lp_rts γ hR hx 3 0 (by omega)
theorem o_of0 (γ : GE) {b c : Bool} {I : AI} {J : AJ} (hL : OLd I) (hS : cs J 7 (fun x => decide (¬ I 104 x = 0))) (hR : ORad I J) {x : Nat} (hx : x < 96) : Ct γ mX11_of 2 0 0 [.ref 0, .int (nI x), .int 0] (SS b c) I J (rI (ofV I (nI x) 0) (SS b c) I J) := by
  have hcx : cellB (nI x) = true := by unfold cellB; rw [decide_eq_true_eq]; exact ⟨nI_pos (by omega), nI_ge (a := x) (b := 96) hx (by decide)⟩
  refine ct_of okX11_of (L := [some (.ref 0), some (.int (nI x)), some (.int 0)]) (Nat.le_of_ble_eq_true rfl) rfl ?_
  refine r_run okX11_of 1 (cs := []) (σ' := (1, [some (.ref 0), some (.int (nI x)), some (.int 0)], [.int (nI x)], (SS b c), I, J, 0, 0)) rfl trivial ?_
  refine r_callS okX11_of okX11_isCell [.int (nI x)] [] rfl rfl rfl kkX11_isCell rfl rfl (by decide) (by decide) ⟨Nat.le_refl _, Nat.le_refl _⟩ (Nat.le_of_ble_eq_true rfl) (o_isCell γ (nI x)) (fun v1 S1 I1 J1 hp => ?_)
  obtain ⟨rfl, rfl, rfl, rfl⟩ := hp
  show Rj _ _ _ _ _ _ (4, [some (.ref 0), some (.int (nI x)), some (.int 0)], [.int (bi (cellB (nI x)))], (SS b c), I, J, 0, 0)
  refine r_ifc okX11_of rfl (fun (h4 : ¬ (bi (cellB (nI x))) = (0 : Int32)) => ?_) (fun h40 => ?_)
  · refine r_run okX11_of 1 (cs := []) (σ' := (10, [some (.ref 0), some (.int (nI x)), some (.int 0)], [.int 0], (SS b c), I, J, 0, 0)) rfl trivial ?_
    refine r_tblIn okX11_of rfl (by decide) (by decide) (off := 34) (tgt := 44) rfl rfl ?_
    show Rj _ _ _ _ _ _ (44, [some (.ref 0), some (.int (nI x)), some (.int 0)], [], (SS b c), I, J, 0, 0)
    refine r_run okX11_of 3 (cs := []) (σ' := (49, [some (.ref 0), some (.int (nI x)), some (.int 0)], [.int (nI x), .ref 1], (SS b c), I, J, 0, 0)) rfl trivial ?_
    refine r_callV okX11_of okX2_countyAt [.int (nI x)] [] 1 rfl rfl rfl kkX2_countyAt rfl rfl (by decide) rfl rfl rfl (by decide) ⟨Nat.le_refl _, Nat.le_refl _⟩ (Nat.le_of_ble_eq_true rfl) (o_countyAt γ hL hx rfl) (fun v1 S1 I1 J1 hp => ?_)
    obtain ⟨rfl, rfl, rfl, rfl⟩ := hp
    show Rj _ _ _ _ _ _ (52, [some (.ref 0), some (.int (nI x)), some (.int 0)], [.int (I 101 x)], (SS b c), I, J, 0, 0)
    refine r_iret okX11_of rfl rfl rfl (Nat.le_refl _) (Nat.le_refl _) ?_
    exact ⟨by unfold ofV; rw [hcx]; simp [nv_nI (show x < 2 ^ 31 by omega)], rfl, rfl, rfl⟩
  · have h4 : (bi (cellB (nI x))) = (0 : Int32) := Classical.not_not.mp h40
    exact absurd h4 (bi_n0.mpr hcx)
theorem o_of1 (γ : GE) {b c : Bool} {I : AI} {J : AJ} (hL : OLd I) (hS : cs J 7 (fun x => decide (¬ I 104 x = 0))) (hR : ORad I J) {x : Nat} (hx : x < 96) : Ct γ mX11_of 2 0 0 [.ref 0, .int (nI x), .int 1] (SS b c) I J (rI (ofV I (nI x) 1) (SS b c) I J) := by
  have hcx : cellB (nI x) = true := by unfold cellB; rw [decide_eq_true_eq]; exact ⟨nI_pos (by omega), nI_ge (a := x) (b := 96) hx (by decide)⟩
  refine ct_of okX11_of (L := [some (.ref 0), some (.int (nI x)), some (.int 1)]) (Nat.le_of_ble_eq_true rfl) rfl ?_
  refine r_run okX11_of 1 (cs := []) (σ' := (1, [some (.ref 0), some (.int (nI x)), some (.int 1)], [.int (nI x)], (SS b c), I, J, 0, 0)) rfl trivial ?_
  refine r_callS okX11_of okX11_isCell [.int (nI x)] [] rfl rfl rfl kkX11_isCell rfl rfl (by decide) (by decide) ⟨Nat.le_refl _, Nat.le_refl _⟩ (Nat.le_of_ble_eq_true rfl) (o_isCell γ (nI x)) (fun v1 S1 I1 J1 hp => ?_)
  obtain ⟨rfl, rfl, rfl, rfl⟩ := hp
  show Rj _ _ _ _ _ _ (4, [some (.ref 0), some (.int (nI x)), some (.int 1)], [.int (bi (cellB (nI x)))], (SS b c), I, J, 0, 0)
  refine r_ifc okX11_of rfl (fun (h4 : ¬ (bi (cellB (nI x))) = (0 : Int32)) => ?_) (fun h40 => ?_)
  · refine r_run okX11_of 1 (cs := []) (σ' := (10, [some (.ref 0), some (.int (nI x)), some (.int 1)], [.int 1], (SS b c), I, J, 0, 0)) rfl trivial ?_
    refine r_tblIn okX11_of rfl (by decide) (by decide) (off := 43) (tgt := 53) rfl rfl ?_
    show Rj _ _ _ _ _ _ (53, [some (.ref 0), some (.int (nI x)), some (.int 1)], [], (SS b c), I, J, 0, 0)
    refine r_run okX11_of 3 (cs := []) (σ' := (58, [some (.ref 0), some (.int (nI x)), some (.int 1)], [.int (nI x), .ref 1], (SS b c), I, J, 0, 0)) rfl trivial ?_
    refine r_callV okX11_of okX2_peopleAt [.int (nI x)] [] 1 rfl rfl rfl kkX2_peopleAt rfl rfl (by decide) rfl rfl rfl (by decide) ⟨Nat.le_refl _, Nat.le_refl _⟩ (Nat.le_of_ble_eq_true rfl) (o_peopleAt γ hL hx rfl) (fun v1 S1 I1 J1 hp => ?_)
    obtain ⟨rfl, rfl, rfl, rfl⟩ := hp
    show Rj _ _ _ _ _ _ (61, [some (.ref 0), some (.int (nI x)), some (.int 1)], [.int (I 102 x)], (SS b c), I, J, 0, 0)
    refine r_iret okX11_of rfl rfl rfl (Nat.le_refl _) (Nat.le_refl _) ?_
    exact ⟨by unfold ofV; rw [hcx]; simp [nv_nI (show x < 2 ^ 31 by omega)], rfl, rfl, rfl⟩
  · have h4 : (bi (cellB (nI x))) = (0 : Int32) := Classical.not_not.mp h40
    exact absurd h4 (bi_n0.mpr hcx)
theorem o_of2 (γ : GE) {b c : Bool} {I : AI} {J : AJ} (hL : OLd I) (hS : cs J 7 (fun x => decide (¬ I 104 x = 0))) (hR : ORad I J) {x : Nat} (hx : x < 96) : Ct γ mX11_of 2 0 0 [.ref 0, .int (nI x), .int 2] (SS b c) I J (rI (ofV I (nI x) 2) (SS b c) I J) := by
  have hcx : cellB (nI x) = true := by unfold cellB; rw [decide_eq_true_eq]; exact ⟨nI_pos (by omega), nI_ge (a := x) (b := 96) hx (by decide)⟩
  refine ct_of okX11_of (L := [some (.ref 0), some (.int (nI x)), some (.int 2)]) (Nat.le_of_ble_eq_true rfl) rfl ?_
  refine r_run okX11_of 1 (cs := []) (σ' := (1, [some (.ref 0), some (.int (nI x)), some (.int 2)], [.int (nI x)], (SS b c), I, J, 0, 0)) rfl trivial ?_
  refine r_callS okX11_of okX11_isCell [.int (nI x)] [] rfl rfl rfl kkX11_isCell rfl rfl (by decide) (by decide) ⟨Nat.le_refl _, Nat.le_refl _⟩ (Nat.le_of_ble_eq_true rfl) (o_isCell γ (nI x)) (fun v1 S1 I1 J1 hp => ?_)
  obtain ⟨rfl, rfl, rfl, rfl⟩ := hp
  show Rj _ _ _ _ _ _ (4, [some (.ref 0), some (.int (nI x)), some (.int 2)], [.int (bi (cellB (nI x)))], (SS b c), I, J, 0, 0)
  refine r_ifc okX11_of rfl (fun (h4 : ¬ (bi (cellB (nI x))) = (0 : Int32)) => ?_) (fun h40 => ?_)
  · refine r_run okX11_of 1 (cs := []) (σ' := (10, [some (.ref 0), some (.int (nI x)), some (.int 2)], [.int 2], (SS b c), I, J, 0, 0)) rfl trivial ?_
    refine r_tblIn okX11_of rfl (by decide) (by decide) (off := 52) (tgt := 62) rfl rfl ?_
    show Rj _ _ _ _ _ _ (62, [some (.ref 0), some (.int (nI x)), some (.int 2)], [], (SS b c), I, J, 0, 0)
    refine r_run okX11_of 3 (cs := []) (σ' := (67, [some (.ref 0), some (.int (nI x)), some (.int 2)], [.int (nI x), .ref 1], (SS b c), I, J, 0, 0)) rfl trivial ?_
    refine r_callV okX11_of okX2_shelterAt [.int (nI x)] [] 1 rfl rfl rfl kkX2_shelterAt rfl rfl (by decide) rfl rfl rfl (by decide) ⟨Nat.le_refl _, Nat.le_refl _⟩ (Nat.le_of_ble_eq_true rfl) (o_shelterAt γ hL hx rfl) (fun v1 S1 I1 J1 hp => ?_)
    obtain ⟨rfl, rfl, rfl, rfl⟩ := hp
    show Rj _ _ _ _ _ _ (70, [some (.ref 0), some (.int (nI x)), some (.int 2)], [.int (I 103 x)], (SS b c), I, J, 0, 0)
    refine r_iret okX11_of rfl rfl rfl (Nat.le_refl _) (Nat.le_refl _) ?_
    exact ⟨by unfold ofV; rw [hcx]; simp [nv_nI (show x < 2 ^ 31 by omega)], rfl, rfl, rfl⟩
  · have h4 : (bi (cellB (nI x))) = (0 : Int32) := Classical.not_not.mp h40
    exact absurd h4 (bi_n0.mpr hcx)
theorem o_of3 (γ : GE) {b c : Bool} {I : AI} {J : AJ} (hL : OLd I) (hS : cs J 7 (fun x => decide (¬ I 104 x = 0))) (hR : ORad I J) {x : Nat} (hx : x < 96) : Ct γ mX11_of 2 0 0 [.ref 0, .int (nI x), .int 3] (SS b c) I J (rI (ofV I (nI x) 3) (SS b c) I J) := by
  have hcx : cellB (nI x) = true := by unfold cellB; rw [decide_eq_true_eq]; exact ⟨nI_pos (by omega), nI_ge (a := x) (b := 96) hx (by decide)⟩
  refine ct_of okX11_of (L := [some (.ref 0), some (.int (nI x)), some (.int 3)]) (Nat.le_of_ble_eq_true rfl) rfl ?_
  refine r_run okX11_of 1 (cs := []) (σ' := (1, [some (.ref 0), some (.int (nI x)), some (.int 3)], [.int (nI x)], (SS b c), I, J, 0, 0)) rfl trivial ?_
  refine r_callS okX11_of okX11_isCell [.int (nI x)] [] rfl rfl rfl kkX11_isCell rfl rfl (by decide) (by decide) ⟨Nat.le_refl _, Nat.le_refl _⟩ (Nat.le_of_ble_eq_true rfl) (o_isCell γ (nI x)) (fun v1 S1 I1 J1 hp => ?_)
  obtain ⟨rfl, rfl, rfl, rfl⟩ := hp
  show Rj _ _ _ _ _ _ (4, [some (.ref 0), some (.int (nI x)), some (.int 3)], [.int (bi (cellB (nI x)))], (SS b c), I, J, 0, 0)
  refine r_ifc okX11_of rfl (fun (h4 : ¬ (bi (cellB (nI x))) = (0 : Int32)) => ?_) (fun h40 => ?_)
  · refine r_run okX11_of 1 (cs := []) (σ' := (10, [some (.ref 0), some (.int (nI x)), some (.int 3)], [.int 3], (SS b c), I, J, 0, 0)) rfl trivial ?_
    refine r_tblIn okX11_of rfl (by decide) (by decide) (off := 61) (tgt := 71) rfl rfl ?_
    show Rj _ _ _ _ _ _ (71, [some (.ref 0), some (.int (nI x)), some (.int 3)], [], (SS b c), I, J, 0, 0)
    refine r_run okX11_of 4 (cs := []) (σ' := (79, [some (.ref 0), some (.int (nI x)), some (.int 3)], [.int (nI x), .ref 7], (SS b c), I, J, 0, 0)) rfl trivial ?_
    refine r_callV okX11_of okX0_has [.int (nI x)] [] 7 rfl rfl rfl kkX0_has rfl rfl (by decide) rfl rfl rfl (by decide) ⟨Nat.le_refl _, Nat.le_refl _⟩ (Nat.le_of_ble_eq_true rfl) (a_has γ rfl hS (x := x) hx rfl) (fun v1 S1 I1 J1 hp => ?_)
    obtain ⟨rfl, rfl, rfl, rfl⟩ := hp
    show Rj _ _ _ _ _ _ (82, [some (.ref 0), some (.int (nI x)), some (.int 3)], [.int (bi ((fun x => decide (¬ I 104 x = 0)) x))], (SS b c), I, J, 0, 0)
    refine r_ifc okX11_of rfl (fun (h82 : (bi ((fun x => decide (¬ I 104 x = 0)) x)) = (0 : Int32)) => ?_) (fun (h82 : ¬ (bi ((fun x => decide (¬ I 104 x = 0)) x)) = (0 : Int32)) => ?_)
    · refine r_run okX11_of 1 (cs := []) (σ' := (90, [some (.ref 0), some (.int (nI x)), some (.int 3)], [.int 0], (SS b c), I, J, 0, 0)) rfl trivial ?_
      refine r_iret okX11_of rfl rfl rfl (Nat.le_refl _) (Nat.le_refl _) ?_
      exact ⟨by unfold ofV; rw [hcx]; simp [nv_nI (show x < 2 ^ 31 by omega), Classical.not_not.mp (of_decide_eq_false (bi_0.mp h82))], rfl, rfl, rfl⟩
    · refine r_run okX11_of 2 (cs := []) (σ' := (90, [some (.ref 0), some (.int (nI x)), some (.int 3)], [.int 1], (SS b c), I, J, 0, 0)) rfl trivial ?_
      refine r_iret okX11_of rfl rfl rfl (Nat.le_refl _) (Nat.le_refl _) ?_
      exact ⟨by unfold ofV; rw [hcx]; simp [nv_nI (show x < 2 ^ 31 by omega), of_decide_eq_true (bi_n0.mp h82)], rfl, rfl, rfl⟩
  · have h4 : (bi (cellB (nI x))) = (0 : Int32) := Classical.not_not.mp h40
    exact absurd h4 (bi_n0.mpr hcx)
theorem o_of4 (γ : GE) {b c : Bool} {I : AI} {J : AJ} (hL : OLd I) (hS : cs J 7 (fun x => decide (¬ I 104 x = 0))) (hR : ORad I J) {x : Nat} (hx : x < 96) : Ct γ mX11_of 2 0 0 [.ref 0, .int (nI x), .int 4] (SS b c) I J (rI (ofV I (nI x) 4) (SS b c) I J) := by
  have hcx : cellB (nI x) = true := by unfold cellB; rw [decide_eq_true_eq]; exact ⟨nI_pos (by omega), nI_ge (a := x) (b := 96) hx (by decide)⟩
  refine ct_of okX11_of (L := [some (.ref 0), some (.int (nI x)), some (.int 4)]) (Nat.le_of_ble_eq_true rfl) rfl ?_
  refine r_run okX11_of 1 (cs := []) (σ' := (1, [some (.ref 0), some (.int (nI x)), some (.int 4)], [.int (nI x)], (SS b c), I, J, 0, 0)) rfl trivial ?_
  refine r_callS okX11_of okX11_isCell [.int (nI x)] [] rfl rfl rfl kkX11_isCell rfl rfl (by decide) (by decide) ⟨Nat.le_refl _, Nat.le_refl _⟩ (Nat.le_of_ble_eq_true rfl) (o_isCell γ (nI x)) (fun v1 S1 I1 J1 hp => ?_)
  obtain ⟨rfl, rfl, rfl, rfl⟩ := hp
  show Rj _ _ _ _ _ _ (4, [some (.ref 0), some (.int (nI x)), some (.int 4)], [.int (bi (cellB (nI x)))], (SS b c), I, J, 0, 0)
  refine r_ifc okX11_of rfl (fun (h4 : ¬ (bi (cellB (nI x))) = (0 : Int32)) => ?_) (fun h40 => ?_)
  · refine r_run okX11_of 1 (cs := []) (σ' := (10, [some (.ref 0), some (.int (nI x)), some (.int 4)], [.int 4], (SS b c), I, J, 0, 0)) rfl trivial ?_
    refine r_tblIn okX11_of rfl (by decide) (by decide) (off := 81) (tgt := 91) rfl rfl ?_
    show Rj _ _ _ _ _ _ (91, [some (.ref 0), some (.int (nI x)), some (.int 4)], [], (SS b c), I, J, 0, 0)
    refine r_run okX11_of 2 (cs := []) (σ' := (93, [some (.ref 0), some (.int (nI x)), some (.int 4)], [.int (nI x), .ref 0], (SS b c), I, J, 0, 0)) rfl trivial ?_
    refine r_callV okX11_of okX11_radarsThatSee [.int (nI x)] [] 0 rfl rfl rfl kkX11_radarsThatSee rfl rfl (by decide) rfl rfl rfl (by decide) ⟨Nat.le_refl _, Nat.le_refl _⟩ (Nat.le_of_ble_eq_true rfl) (o_rts γ hR hx) (fun v1 S1 I1 J1 hp => ?_)
    obtain ⟨rfl, rfl, rfl, rfl⟩ := hp
    show Rj _ _ _ _ _ _ (96, [some (.ref 0), some (.int (nI x)), some (.int 4)], [.int (seersV I x)], (SS b c), I, J, 0, 0)
    refine r_iret okX11_of rfl rfl rfl (Nat.le_refl _) (Nat.le_refl _) ?_
    exact ⟨by unfold ofV; rw [hcx]; simp [nv_nI (show x < 2 ^ 31 by omega)], rfl, rfl, rfl⟩
  · have h4 : (bi (cellB (nI x))) = (0 : Int32) := Classical.not_not.mp h40
    exact absurd h4 (bi_n0.mpr hcx)
theorem o_ofo (γ : GE) {b c : Bool} {I : AI} {J : AJ} (hL : OLd I) (hS : cs J 7 (fun x => decide (¬ I 104 x = 0))) (hR : ORad I J) {x : Nat} (hx : x < 96) {v : Int32} (ho : ∀ k, k ≤ 4 → ¬ v = nI k) : Ct γ mX11_of 2 0 0 [.ref 0, .int (nI x), .int v] (SS b c) I J (rI (ofV I (nI x) v) (SS b c) I J) := by
  have hcx : cellB (nI x) = true := by unfold cellB; rw [decide_eq_true_eq]; exact ⟨nI_pos (by omega), nI_ge (a := x) (b := 96) hx (by decide)⟩
  refine ct_of okX11_of (L := [some (.ref 0), some (.int (nI x)), some (.int v)]) (Nat.le_of_ble_eq_true rfl) rfl ?_
  refine r_run okX11_of 1 (cs := []) (σ' := (1, [some (.ref 0), some (.int (nI x)), some (.int v)], [.int (nI x)], (SS b c), I, J, 0, 0)) rfl trivial ?_
  refine r_callS okX11_of okX11_isCell [.int (nI x)] [] rfl rfl rfl kkX11_isCell rfl rfl (by decide) (by decide) ⟨Nat.le_refl _, Nat.le_refl _⟩ (Nat.le_of_ble_eq_true rfl) (o_isCell γ (nI x)) (fun v1 S1 I1 J1 hp => ?_)
  obtain ⟨rfl, rfl, rfl, rfl⟩ := hp
  show Rj _ _ _ _ _ _ (4, [some (.ref 0), some (.int (nI x)), some (.int v)], [.int (bi (cellB (nI x)))], (SS b c), I, J, 0, 0)
  refine r_ifc okX11_of rfl (fun (h4 : ¬ (bi (cellB (nI x))) = (0 : Int32)) => ?_) (fun h40 => ?_)
  · refine r_run okX11_of 1 (cs := []) (σ' := (10, [some (.ref 0), some (.int (nI x)), some (.int v)], [.int v], (SS b c), I, J, 0, 0)) rfl trivial ?_
    refine r_tblOut okX11_of rfl (sw_out 4 (by decide) (fun k hk => ho k hk)) (tgt := 97) rfl ?_
    show Rj _ _ _ _ _ _ (97, [some (.ref 0), some (.int (nI x)), some (.int v)], [], (SS b c), I, J, 0, 0)
    refine r_run okX11_of 1 (cs := []) (σ' := (98, [some (.ref 0), some (.int (nI x)), some (.int v)], [.int (-1)], (SS b c), I, J, 0, 0)) rfl trivial ?_
    refine r_iret okX11_of rfl rfl rfl (Nat.le_refl _) (Nat.le_refl _) ?_
    exact ⟨by unfold ofV; rw [hcx, if_neg (by decide), if_neg (show ¬ v = 0 from ho 0 (by omega)), if_neg (show ¬ v = 1 from ho 1 (by omega)), if_neg (show ¬ v = 2 from ho 2 (by omega)), if_neg (show ¬ v = 3 from ho 3 (by omega)), if_neg (show ¬ v = 4 from ho 4 (by omega))], rfl, rfl, rfl⟩
  · have h4 : (bi (cellB (nI x))) = (0 : Int32) := Classical.not_not.mp h40
    exact absurd h4 (bi_n0.mpr hcx)
theorem o_ofF (γ : GE) {b c : Bool} {I : AI} {J : AJ} {x v : Int32} (hcx : cellB x = false) : Ct γ mX11_of 2 0 0 [.ref 0, .int x, .int v] (SS b c) I J (rI (ofV I x v) (SS b c) I J) := by
  refine ct_of okX11_of (L := [some (.ref 0), some (.int x), some (.int v)]) (Nat.le_of_ble_eq_true rfl) rfl ?_
  refine r_run okX11_of 1 (cs := []) (σ' := (1, [some (.ref 0), some (.int x), some (.int v)], [.int x], (SS b c), I, J, 0, 0)) rfl trivial ?_
  refine r_callS okX11_of okX11_isCell [.int x] [] rfl rfl rfl kkX11_isCell rfl rfl (by decide) (by decide) ⟨Nat.le_refl _, Nat.le_refl _⟩ (Nat.le_of_ble_eq_true rfl) (o_isCell γ x) (fun v1 S1 I1 J1 hp => ?_)
  obtain ⟨rfl, rfl, rfl, rfl⟩ := hp
  show Rj _ _ _ _ _ _ (4, [some (.ref 0), some (.int x), some (.int v)], [.int (bi (cellB x))], (SS b c), I, J, 0, 0)
  refine r_ifc okX11_of rfl (fun (h4 : ¬ (bi (cellB x)) = (0 : Int32)) => ?_) (fun h40 => ?_)
  · exact absurd ((bi_n0.mp h4).symm.trans hcx) (by decide)
  · have h4 : (bi (cellB x)) = (0 : Int32) := Classical.not_not.mp h40
    refine r_run okX11_of 1 (cs := []) (σ' := (8, [some (.ref 0), some (.int x), some (.int v)], [.int (-1)], (SS b c), I, J, 0, 0)) rfl trivial ?_
    refine r_iret okX11_of rfl rfl rfl (Nat.le_refl _) (Nat.le_refl _) ?_
    exact ⟨by unfold ofV; rw [if_pos hcx], rfl, rfl, rfl⟩
theorem o_of (γ : GE) {b c : Bool} {I : AI} {J : AJ} (hL : OLd I) (hS : cs J 7 (fun x => decide (¬ I 104 x = 0))) (hR : ORad I J) (x v : Int32) : Ct γ mX11_of 2 0 0 [.ref 0, .int x, .int v] (SS b c) I J (rI (ofV I x v) (SS b c) I J) := by
  cases hcx : cellB x with
  | false => exact o_ofF γ hcx
  | true =>
    obtain ⟨hx, ex⟩ := cell_lt hcx
    rw [ex]
    by_cases v0 : v = 0
    · subst v0; exact o_of0 γ hL hS hR hx
    by_cases v1 : v = 1
    · subst v1; exact o_of1 γ hL hS hR hx
    by_cases v2 : v = 2
    · subst v2; exact o_of2 γ hL hS hR hx
    by_cases v3 : v = 3
    · subst v3; exact o_of3 γ hL hS hR hx
    by_cases v4 : v = 4
    · subst v4; exact o_of4 γ hL hS hR hx
    refine o_ofo γ hL hS hR hx (fun k hk => ?_)
    have : k = 0 ∨ k = 1 ∨ k = 2 ∨ k = 3 ∨ k = 4 := by omega
    rcases this with rfl | rfl | rfl | rfl | rfl
    · exact v0
    · exact v1
    · exact v2
    · exact v3
    · exact v4
theorem o_addX (γ : GE) {b c : Bool} {I : AI} {J : AJ} (hO : OTel I) (hT : MTel I) (s : Int32) {t : Int32} (h5 : rg 720 (I 100 5)) (ht : inB t 0 (I 100 5) = true) (x v k : Int32) : Ct γ mX7_add 0 0 0 [.ref 29, .int s, .int t, .int x, .int v, .int k] (SS b c) I J (rI (bi (decide (¬ I 100 13 = 300))) (SS b c) (if I 100 13 = 300 then I else addN I (nv (I 100 13)) s (nv t) x v k) J) := by
  obtain ⟨-, h1, h2⟩ := past_vin h5 ht
  have hn := rg_nv h5 (by decide)
  have hm := rg_nv hT.1 (by decide)
  have h := o_add γ (J := J) (b := b) (c := c) hm.1 (hO.1.trans hm.2) s (t := nv t) (by omega) x v k
  rw [← h2] at h
  have e : (nv (I 100 13) = 300) = (I 100 13 = 300) := by
    apply propext
    constructor
    · intro z; rw [hm.2, z]; rfl
    · intro z; rw [z]; rfl
  simp only [e] at h
  exact h
def seeO (I : AI) (r t x : Int32) : AI := if (seeB I r t x) then addN I (nv (I 100 13)) 0 (nv t) x r (I 100 5) else I
theorem o_seen (γ : GE) {b c : Bool} {I : AI} {J : AJ} (hN : ONow I) (hR : ORad I J) (hM : MRad I) (hO : OTel I) (hT : MTel I) (hn5 : rg 720 (I 100 5)) (r t x : Int32) : Ct γ mX11_seen 2 0 0 [.ref 0, .int r, .int t, .int x] (SS b c) I J (rI (bi (seeB I r t x)) (SS b c) (seeO I r t x) J) := by
  refine ct_of okX11_seen (L := [some (.ref 0), some (.int r), some (.int t), some (.int x)]) (Nat.le_of_ble_eq_true rfl) rfl ?_
  refine r_run okX11_seen 2 (cs := []) (σ' := (2, [some (.ref 0), some (.int r), some (.int t), some (.int x)], [.int r, .ref 0], (SS b c), I, J, 0, 0)) rfl trivial ?_
  refine r_callV okX11_seen okX11_isRadar [.int r] [] 0 rfl rfl rfl kkX11_isRadar rfl rfl (by decide) rfl rfl rfl (by decide) ⟨Nat.le_refl _, Nat.le_refl _⟩ (Nat.le_of_ble_eq_true rfl) (o_isRadar γ hR hM r) (fun v1 S1 I1 J1 hp => ?_)
  obtain ⟨rfl, rfl, rfl, rfl⟩ := hp
  show Rj _ _ _ _ _ _ (5, [some (.ref 0), some (.int r), some (.int t), some (.int x)], [.int (bi (hasR I r))], (SS b c), I, J, 0, 0)
  refine r_ifc okX11_seen rfl (fun (h5 : (bi (hasR I r)) = (0 : Int32)) => ?_) (fun (h5 : ¬ (bi (hasR I r)) = (0 : Int32)) => ?_)
  · have h5s := bi_0.mp h5
    refine r_run okX11_seen 1 (cs := []) (σ' := (46, [some (.ref 0), some (.int r), some (.int t), some (.int x)], [.int 0], (SS b c), I, J, 0, 0)) rfl trivial ?_
    refine r_iret okX11_seen rfl rfl (by decide +kernel) (Nat.le_refl _) (Nat.le_refl _) ?_
    have hb : (seeB I r t x) = false := by unfold seeB; rw [h5s]; simp
    exact ⟨by rw [hb]; rfl, rfl, by unfold seeO; rw [hb]; rfl, rfl⟩
  · have h5s := bi_n0.mp h5
    refine r_run okX11_seen 2 (cs := []) (σ' := (10, [some (.ref 0), some (.int r), some (.int t), some (.int x)], [.int t, .ref 0], (SS b c), I, J, 0, 0)) rfl trivial ?_
    refine r_callV okX11_seen okX11_isPast [.int t] [] 0 rfl rfl rfl kkX11_isPast rfl rfl (by decide) rfl rfl rfl (by decide) ⟨Nat.le_refl _, Nat.le_refl _⟩ (Nat.le_of_ble_eq_true rfl) (o_isPast γ hN t) (fun v1 S1 I1 J1 hp => ?_)
    obtain ⟨rfl, rfl, rfl, rfl⟩ := hp
    show Rj _ _ _ _ _ _ (13, [some (.ref 0), some (.int r), some (.int t), some (.int x)], [.int (bi (inB t 0 (I 100 5)))], (SS b c), I, J, 0, 0)
    refine r_ifc okX11_seen rfl (fun (h13 : (bi (inB t 0 (I 100 5))) = (0 : Int32)) => ?_) (fun (h13 : ¬ (bi (inB t 0 (I 100 5))) = (0 : Int32)) => ?_)
    · have h13s := bi_0.mp h13
      refine r_run okX11_seen 1 (cs := []) (σ' := (46, [some (.ref 0), some (.int r), some (.int t), some (.int x)], [.int 0], (SS b c), I, J, 0, 0)) rfl trivial ?_
      refine r_iret okX11_seen rfl rfl (by decide +kernel) (Nat.le_refl _) (Nat.le_refl _) ?_
      have hb : (seeB I r t x) = false := by unfold seeB; unfold telB; rw [h5s, h13s]; simp
      exact ⟨by rw [hb]; rfl, rfl, by unfold seeO; rw [hb]; rfl, rfl⟩
    · have h13s := bi_n0.mp h13
      refine r_run okX11_seen 1 (cs := []) (σ' := (17, [some (.ref 0), some (.int r), some (.int t), some (.int x)], [.int x], (SS b c), I, J, 0, 0)) rfl trivial ?_
      refine r_callS okX11_seen okX11_isCell [.int x] [] rfl rfl rfl kkX11_isCell rfl rfl (by decide) (by decide) ⟨Nat.le_refl _, Nat.le_refl _⟩ (Nat.le_of_ble_eq_true rfl) (o_isCell γ x) (fun v1 S1 I1 J1 hp => ?_)
      obtain ⟨rfl, rfl, rfl, rfl⟩ := hp
      show Rj _ _ _ _ _ _ (20, [some (.ref 0), some (.int r), some (.int t), some (.int x)], [.int (bi (cellB x))], (SS b c), I, J, 0, 0)
      refine r_ifc okX11_seen rfl (fun (h20 : (bi (cellB x)) = (0 : Int32)) => ?_) (fun (h20 : ¬ (bi (cellB x)) = (0 : Int32)) => ?_)
      · have h20s := bi_0.mp h20
        refine r_run okX11_seen 1 (cs := []) (σ' := (46, [some (.ref 0), some (.int r), some (.int t), some (.int x)], [.int 0], (SS b c), I, J, 0, 0)) rfl trivial ?_
        refine r_iret okX11_seen rfl rfl (by decide +kernel) (Nat.le_refl _) (Nat.le_refl _) ?_
        have hb : (seeB I r t x) = false := by unfold seeB; rw [h5s, h20s]; rfl
        exact ⟨by rw [hb]; rfl, rfl, by unfold seeO; rw [hb]; rfl, rfl⟩
      · have h20s := bi_n0.mp h20
        refine r_run okX11_seen 8 (cs := []) (σ' := (35, [some (.ref 0), some (.int r), some (.int t), some (.int x)], [.int (I 0 15), .int r, .int x, .int t, .int 0, .ref 29], (SS b c), I, J, 0, 0)) rfl trivial ?_
        simp only [hN.1]
        show Rj _ _ _ _ _ _ (35, [some (.ref 0), some (.int r), some (.int t), some (.int x)], [.int (I 100 5), .int r, .int x, .int t, .int 0, .ref 29], (SS b c), I, J, 0, 0)
        refine r_callV okX11_seen okX7_add [.int 0, .int t, .int x, .int r, .int (I 100 5)] [] 29 rfl rfl rfl kkX7_add rfl rfl (by decide) rfl rfl rfl (by decide) ⟨Nat.le_refl _, Nat.le_refl _⟩ (Nat.le_of_ble_eq_true rfl) (o_addX γ hO hT 0 hn5 h13s x r (I 100 5)) (fun v1 S1 I1 J1 hp => ?_)
        obtain ⟨rfl, rfl, rfl, rfl⟩ := hp
        show Rj _ _ _ _ _ _ (38, [some (.ref 0), some (.int r), some (.int t), some (.int x)], [.int (bi (decide (¬ I 100 13 = 300)))], (SS b c), (if I 100 13 = 300 then I else addN I (nv (I 100 13)) 0 (nv t) x r (I 100 5)), J, 0, 0)
        refine r_ifc okX11_seen rfl (fun (h38 : (bi (decide (¬ I 100 13 = 300))) = (0 : Int32)) => ?_) (fun (h38 : ¬ (bi (decide (¬ I 100 13 = 300))) = (0 : Int32)) => ?_)
        · have h38s := bi_0.mp h38
          refine r_run okX11_seen 1 (cs := []) (σ' := (46, [some (.ref 0), some (.int r), some (.int t), some (.int x)], [.int 0], (SS b c), (if I 100 13 = 300 then I else addN I (nv (I 100 13)) 0 (nv t) x r (I 100 5)), J, 0, 0)) rfl trivial ?_
          refine r_iret okX11_seen rfl rfl (by decide +kernel) (Nat.le_refl _) (Nat.le_refl _) ?_
          have hb : (seeB I r t x) = false := by unfold seeB telB; rw [h5s, h20s, h13s, h38s]; rfl
          exact ⟨by rw [hb]; rfl, rfl, by unfold seeO; rw [hb]; rw [if_pos (Classical.not_not.mp (of_decide_eq_false h38s))]; rfl, rfl⟩
        · have h38s := bi_n0.mp h38
          refine r_run okX11_seen 2 (cs := []) (σ' := (46, [some (.ref 0), some (.int r), some (.int t), some (.int x)], [.int 1], (SS b c), (if I 100 13 = 300 then I else addN I (nv (I 100 13)) 0 (nv t) x r (I 100 5)), J, 0, 0)) rfl trivial ?_
          refine r_iret okX11_seen rfl rfl (by decide +kernel) (Nat.le_refl _) (Nat.le_refl _) ?_
          have hb : (seeB I r t x) = true := by unfold seeB telB; rw [h5s, h20s, h13s, h38s]; rfl
          exact ⟨by rw [hb]; rfl, rfl, by unfold seeO; rw [if_pos hb, if_neg (of_decide_eq_true h38s)], rfl⟩
def barO (I : AI) (r t : Int32) : AI := if (barB I r t) then addN I (nv (I 100 13)) 3 (nv t) 0 r (I 100 5) else I
theorem o_bare (γ : GE) {b c : Bool} {I : AI} {J : AJ} (hN : ONow I) (hR : ORad I J) (hM : MRad I) (hO : OTel I) (hT : MTel I) (hn5 : rg 720 (I 100 5)) (r t : Int32) : Ct γ mX11_bare 2 0 0 [.ref 0, .int r, .int t] (SS b c) I J (rI (bi (barB I r t)) (SS b c) (barO I r t) J) := by
  refine ct_of okX11_bare (L := [some (.ref 0), some (.int r), some (.int t)]) (Nat.le_of_ble_eq_true rfl) rfl ?_
  refine r_run okX11_bare 2 (cs := []) (σ' := (2, [some (.ref 0), some (.int r), some (.int t)], [.int r, .ref 0], (SS b c), I, J, 0, 0)) rfl trivial ?_
  refine r_callV okX11_bare okX11_isRadar [.int r] [] 0 rfl rfl rfl kkX11_isRadar rfl rfl (by decide) rfl rfl rfl (by decide) ⟨Nat.le_refl _, Nat.le_refl _⟩ (Nat.le_of_ble_eq_true rfl) (o_isRadar γ hR hM r) (fun v1 S1 I1 J1 hp => ?_)
  obtain ⟨rfl, rfl, rfl, rfl⟩ := hp
  show Rj _ _ _ _ _ _ (5, [some (.ref 0), some (.int r), some (.int t)], [.int (bi (hasR I r))], (SS b c), I, J, 0, 0)
  refine r_ifc okX11_bare rfl (fun (h5 : (bi (hasR I r)) = (0 : Int32)) => ?_) (fun (h5 : ¬ (bi (hasR I r)) = (0 : Int32)) => ?_)
  · have h5s := bi_0.mp h5
    refine r_run okX11_bare 1 (cs := []) (σ' := (39, [some (.ref 0), some (.int r), some (.int t)], [.int 0], (SS b c), I, J, 0, 0)) rfl trivial ?_
    refine r_iret okX11_bare rfl rfl (by decide +kernel) (Nat.le_refl _) (Nat.le_refl _) ?_
    have hb : (barB I r t) = false := by unfold barB; rw [h5s]; simp
    exact ⟨by rw [hb]; rfl, rfl, by unfold barO; rw [hb]; rfl, rfl⟩
  · have h5s := bi_n0.mp h5
    refine r_run okX11_bare 2 (cs := []) (σ' := (10, [some (.ref 0), some (.int r), some (.int t)], [.int t, .ref 0], (SS b c), I, J, 0, 0)) rfl trivial ?_
    refine r_callV okX11_bare okX11_isPast [.int t] [] 0 rfl rfl rfl kkX11_isPast rfl rfl (by decide) rfl rfl rfl (by decide) ⟨Nat.le_refl _, Nat.le_refl _⟩ (Nat.le_of_ble_eq_true rfl) (o_isPast γ hN t) (fun v1 S1 I1 J1 hp => ?_)
    obtain ⟨rfl, rfl, rfl, rfl⟩ := hp
    show Rj _ _ _ _ _ _ (13, [some (.ref 0), some (.int r), some (.int t)], [.int (bi (inB t 0 (I 100 5)))], (SS b c), I, J, 0, 0)
    refine r_ifc okX11_bare rfl (fun (h13 : (bi (inB t 0 (I 100 5))) = (0 : Int32)) => ?_) (fun (h13 : ¬ (bi (inB t 0 (I 100 5))) = (0 : Int32)) => ?_)
    · have h13s := bi_0.mp h13
      refine r_run okX11_bare 1 (cs := []) (σ' := (39, [some (.ref 0), some (.int r), some (.int t)], [.int 0], (SS b c), I, J, 0, 0)) rfl trivial ?_
      refine r_iret okX11_bare rfl rfl (by decide +kernel) (Nat.le_refl _) (Nat.le_refl _) ?_
      have hb : (barB I r t) = false := by unfold barB; unfold telB; rw [h5s, h13s]; simp
      exact ⟨by rw [hb]; rfl, rfl, by unfold barO; rw [hb]; rfl, rfl⟩
    · have h13s := bi_n0.mp h13
      refine r_run okX11_bare 8 (cs := []) (σ' := (28, [some (.ref 0), some (.int r), some (.int t)], [.int (I 0 15), .int r, .int 0, .int t, .int 3, .ref 29], (SS b c), I, J, 0, 0)) rfl trivial ?_
      simp only [hN.1]
      show Rj _ _ _ _ _ _ (28, [some (.ref 0), some (.int r), some (.int t)], [.int (I 100 5), .int r, .int 0, .int t, .int 3, .ref 29], (SS b c), I, J, 0, 0)
      refine r_callV okX11_bare okX7_add [.int 3, .int t, .int 0, .int r, .int (I 100 5)] [] 29 rfl rfl rfl kkX7_add rfl rfl (by decide) rfl rfl rfl (by decide) ⟨Nat.le_refl _, Nat.le_refl _⟩ (Nat.le_of_ble_eq_true rfl) (o_addX γ hO hT 3 hn5 h13s 0 r (I 100 5)) (fun v1 S1 I1 J1 hp => ?_)
      obtain ⟨rfl, rfl, rfl, rfl⟩ := hp
      show Rj _ _ _ _ _ _ (31, [some (.ref 0), some (.int r), some (.int t)], [.int (bi (decide (¬ I 100 13 = 300)))], (SS b c), (if I 100 13 = 300 then I else addN I (nv (I 100 13)) 3 (nv t) 0 r (I 100 5)), J, 0, 0)
      refine r_ifc okX11_bare rfl (fun (h31 : (bi (decide (¬ I 100 13 = 300))) = (0 : Int32)) => ?_) (fun (h31 : ¬ (bi (decide (¬ I 100 13 = 300))) = (0 : Int32)) => ?_)
      · have h31s := bi_0.mp h31
        refine r_run okX11_bare 1 (cs := []) (σ' := (39, [some (.ref 0), some (.int r), some (.int t)], [.int 0], (SS b c), (if I 100 13 = 300 then I else addN I (nv (I 100 13)) 3 (nv t) 0 r (I 100 5)), J, 0, 0)) rfl trivial ?_
        refine r_iret okX11_bare rfl rfl (by decide +kernel) (Nat.le_refl _) (Nat.le_refl _) ?_
        have hb : (barB I r t) = false := by unfold barB telB; rw [h5s, h13s, h31s]; rfl
        exact ⟨by rw [hb]; rfl, rfl, by unfold barO; rw [hb]; rw [if_pos (Classical.not_not.mp (of_decide_eq_false h31s))]; rfl, rfl⟩
      · have h31s := bi_n0.mp h31
        refine r_run okX11_bare 2 (cs := []) (σ' := (39, [some (.ref 0), some (.int r), some (.int t)], [.int 1], (SS b c), (if I 100 13 = 300 then I else addN I (nv (I 100 13)) 3 (nv t) 0 r (I 100 5)), J, 0, 0)) rfl trivial ?_
        refine r_iret okX11_bare rfl rfl (by decide +kernel) (Nat.le_refl _) (Nat.le_refl _) ?_
        have hb : (barB I r t) = true := by unfold barB telB; rw [h5s, h13s, h31s]; rfl
        exact ⟨by rw [hb]; rfl, rfl, by unfold barO; rw [if_pos hb, if_neg (of_decide_eq_true h31s)], rfl⟩
def worO (I : AI) (t x d : Int32) : AI := if worB I t x d then addN I (nv (I 100 13)) (if d = -1 then 2 else 1) (nv t) x d (I 100 5) else I
theorem o_word (γ : GE) {b c : Bool} {I : AI} {J : AJ} (hN : ONow I) (hR : ORad I J) (hM : MRad I) (hO : OTel I) (hT : MTel I) (hn5 : rg 720 (I 100 5)) (t x d : Int32) : Ct γ mX11_word 2 0 0 [.ref 0, .int t, .int x, .int d] (SS b c) I J (rI (bi (worB I t x d)) (SS b c) (worO I t x d) J) := by
  refine ct_of okX11_word (L := [some (.ref 0), some (.int t), some (.int x), some (.int d)]) (Nat.le_of_ble_eq_true rfl) rfl ?_
  refine r_run okX11_word 2 (cs := []) (σ' := (2, [some (.ref 0), some (.int t), some (.int x), some (.int d)], [.int t, .ref 0], (SS b c), I, J, 0, 0)) rfl trivial ?_
  refine r_callV okX11_word okX11_isPast [.int t] [] 0 rfl rfl rfl kkX11_isPast rfl rfl (by decide) rfl rfl rfl (by decide) ⟨Nat.le_refl _, Nat.le_refl _⟩ (Nat.le_of_ble_eq_true rfl) (o_isPast γ hN t) (fun v1 S1 I1 J1 hp => ?_)
  obtain ⟨rfl, rfl, rfl, rfl⟩ := hp
  show Rj _ _ _ _ _ _ (5, [some (.ref 0), some (.int t), some (.int x), some (.int d)], [.int (bi (inB t 0 (I 100 5)))], (SS b c), I, J, 0, 0)
  refine r_ifc okX11_word rfl (fun (h5 : (bi (inB t 0 (I 100 5))) = (0 : Int32)) => ?_) (fun (h5 : ¬ (bi (inB t 0 (I 100 5))) = (0 : Int32)) => ?_)
  · have h5s := bi_0.mp h5
    refine r_run okX11_word 1 (cs := []) (σ' := (25, [some (.ref 0), some (.int t), some (.int x), some (.int d)], [.int 0], (SS b c), I, J, 0, 0)) rfl trivial ?_
    refine r_iret okX11_word rfl rfl (by decide +kernel) (Nat.le_refl _) (Nat.le_refl _) ?_
    have hb : worB I t x d = false := by unfold worB telB; rw [h5s]; simp
    exact ⟨by rw [hb]; rfl, rfl, by unfold worO; rw [hb]; rfl, rfl⟩
  · have h5s := bi_n0.mp h5
    refine r_run okX11_word 1 (cs := []) (σ' := (9, [some (.ref 0), some (.int t), some (.int x), some (.int d)], [.int x], (SS b c), I, J, 0, 0)) rfl trivial ?_
    refine r_callS okX11_word okX11_isCell [.int x] [] rfl rfl rfl kkX11_isCell rfl rfl (by decide) (by decide) ⟨Nat.le_refl _, Nat.le_refl _⟩ (Nat.le_of_ble_eq_true rfl) (o_isCell γ x) (fun v1 S1 I1 J1 hp => ?_)
    obtain ⟨rfl, rfl, rfl, rfl⟩ := hp
    show Rj _ _ _ _ _ _ (12, [some (.ref 0), some (.int t), some (.int x), some (.int d)], [.int (bi (cellB x))], (SS b c), I, J, 0, 0)
    refine r_ifc okX11_word rfl (fun (h12 : (bi (cellB x)) = (0 : Int32)) => ?_) (fun (h12 : ¬ (bi (cellB x)) = (0 : Int32)) => ?_)
    · have h12s := bi_0.mp h12
      refine r_run okX11_word 1 (cs := []) (σ' := (25, [some (.ref 0), some (.int t), some (.int x), some (.int d)], [.int 0], (SS b c), I, J, 0, 0)) rfl trivial ?_
      refine r_iret okX11_word rfl rfl (by decide +kernel) (Nat.le_refl _) (Nat.le_refl _) ?_
      have hb : worB I t x d = false := by unfold worB; rw [h12s]; simp
      exact ⟨by rw [hb]; rfl, rfl, by unfold worO; rw [hb]; rfl, rfl⟩
    · have h12s := bi_n0.mp h12
      refine r_run okX11_word 3 (cs := []) (σ' := (18, [some (.ref 0), some (.int t), some (.int x), some (.int d)], [.int 5, .int (-1), .int d], (SS b c), I, J, 0, 0)) rfl trivial ?_
      refine r_callS okX11_word okX11_within [.int d, .int (-1), .int 5] [] rfl rfl rfl kkX11_within rfl rfl (by decide) (by decide) ⟨Nat.le_refl _, Nat.le_refl _⟩ (Nat.le_of_ble_eq_true rfl) (o_win γ d (-1) 5) (fun v1 S1 I1 J1 hp => ?_)
      obtain ⟨rfl, rfl, rfl, rfl⟩ := hp
      show Rj _ _ _ _ _ _ (21, [some (.ref 0), some (.int t), some (.int x), some (.int d)], [.int (bi (inB d (-1) 5))], (SS b c), I, J, 0, 0)
      refine r_ifc okX11_word rfl (fun (h21 : ¬ (bi (inB d (-1) 5)) = (0 : Int32)) => ?_) (fun h210 => ?_)
      · have h21s := bi_n0.mp h21
        refine r_run okX11_word 4 (cs := []) (σ' := (32, [some (.ref 0), some (.int t), some (.int x), some (.int d)], [.int (-1), .int d, .ref 29], (SS b c), I, J, 0, 0)) rfl trivial ?_
        refine r_icmp okX11_word rfl (fun (h32 : ¬ d = ((-1) : Int32)) => ?_) (fun h320 => ?_)
        · refine r_run okX11_word 6 (cs := []) (σ' := (47, [some (.ref 0), some (.int t), some (.int x), some (.int d)], [.int (I 0 15), .int d, .int x, .int t, .int 1, .ref 29], (SS b c), I, J, 0, 0)) rfl trivial ?_
          simp only [hN.1]
          show Rj _ _ _ _ _ _ (47, [some (.ref 0), some (.int t), some (.int x), some (.int d)], [.int (I 100 5), .int d, .int x, .int t, .int 1, .ref 29], (SS b c), I, J, 0, 0)
          refine r_callV okX11_word okX7_add [.int 1, .int t, .int x, .int d, .int (I 100 5)] [] 29 rfl rfl rfl kkX7_add rfl rfl (by decide) rfl rfl rfl (by decide) ⟨Nat.le_refl _, Nat.le_refl _⟩ (Nat.le_of_ble_eq_true rfl) (o_addX γ hO hT 1 hn5 h5s x d (I 100 5)) (fun v1 S1 I1 J1 hp => ?_)
          obtain ⟨rfl, rfl, rfl, rfl⟩ := hp
          show Rj _ _ _ _ _ _ (50, [some (.ref 0), some (.int t), some (.int x), some (.int d)], [.int (bi (decide (¬ I 100 13 = 300)))], (SS b c), (if I 100 13 = 300 then I else addN I (nv (I 100 13)) 1 (nv t) x d (I 100 5)), J, 0, 0)
          refine r_iret okX11_word rfl rfl (nar_b (bi_bz _)) (Nat.le_refl _) (Nat.le_refl _) ?_
          have hb : worB I t x d = decide (¬ I 100 13 = 300) := by unfold worB telB; rw [h12s, h21s, h5s]; simp
          refine ⟨by rw [hb], rfl, ?_, rfl⟩
          unfold worO; rw [hb, if_neg h32]
          by_cases q : I 100 13 = 300
          · rw [if_pos q, if_neg (by simp [q])]
          · rw [if_neg q, if_pos (by simp [q])]
        · have h32 : d = ((-1) : Int32) := Classical.not_not.mp h320
          refine r_run okX11_word 7 (cs := []) (σ' := (47, [some (.ref 0), some (.int t), some (.int x), some (.int d)], [.int (I 0 15), .int d, .int x, .int t, .int 2, .ref 29], (SS b c), I, J, 0, 0)) rfl trivial ?_
          simp only [hN.1]
          show Rj _ _ _ _ _ _ (47, [some (.ref 0), some (.int t), some (.int x), some (.int d)], [.int (I 100 5), .int d, .int x, .int t, .int 2, .ref 29], (SS b c), I, J, 0, 0)
          refine r_callV okX11_word okX7_add [.int 2, .int t, .int x, .int d, .int (I 100 5)] [] 29 rfl rfl rfl kkX7_add rfl rfl (by decide) rfl rfl rfl (by decide) ⟨Nat.le_refl _, Nat.le_refl _⟩ (Nat.le_of_ble_eq_true rfl) (o_addX γ hO hT 2 hn5 h5s x d (I 100 5)) (fun v1 S1 I1 J1 hp => ?_)
          obtain ⟨rfl, rfl, rfl, rfl⟩ := hp
          show Rj _ _ _ _ _ _ (50, [some (.ref 0), some (.int t), some (.int x), some (.int d)], [.int (bi (decide (¬ I 100 13 = 300)))], (SS b c), (if I 100 13 = 300 then I else addN I (nv (I 100 13)) 2 (nv t) x d (I 100 5)), J, 0, 0)
          refine r_iret okX11_word rfl rfl (nar_b (bi_bz _)) (Nat.le_refl _) (Nat.le_refl _) ?_
          have hb : worB I t x d = decide (¬ I 100 13 = 300) := by unfold worB telB; rw [h12s, h21s, h5s]; simp
          refine ⟨by rw [hb], rfl, ?_, rfl⟩
          unfold worO; rw [hb, if_pos h32]
          by_cases q : I 100 13 = 300
          · rw [if_pos q, if_neg (by simp [q])]
          · rw [if_neg q, if_pos (by simp [q])]
      · have h21 : (bi (inB d (-1) 5)) = (0 : Int32) := Classical.not_not.mp h210
        have h21s := bi_0.mp h21
        refine r_run okX11_word 1 (cs := []) (σ' := (25, [some (.ref 0), some (.int t), some (.int x), some (.int d)], [.int 0], (SS b c), I, J, 0, 0)) rfl trivial ?_
        refine r_iret okX11_word rfl rfl (by decide +kernel) (Nat.le_refl _) (Nat.le_refl _) ?_
        have hb : worB I t x d = false := by unfold worB; rw [h21s]; simp
        exact ⟨by rw [hb]; rfl, rfl, by unfold worO; rw [hb]; rfl, rfl⟩
