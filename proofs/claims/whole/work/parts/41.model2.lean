/-! ===== the reference: land, radars ===== -/
def MLand (I : AI) : Prop := ∀ x, x < 96 → rg 8 (I 101 x) ∧ rg 1000 (I 102 x) ∧ rg 31 (I 103 x) ∧ bz (I 104 x)
def MRad (I : AI) : Prop := (∀ r, r < 3 → bz (I 105 r) ∧ rg 96 (I 106 r) ∧ rg 12 (I 107 r) ∧ rg 4 (I 108 r)) ∧ ∀ x, x < 288 → bz (I 109 x)
def seesB (I : AI) (r x : Nat) : Bool := decide (¬ I 105 r = 0) && (decide (farN x (nv (I 106 r)) ≤ nv (I 107 r)) && decide (I 109 (96 * r + x) = 0))
theorem inB_t {v lo hi : Int32} : inB v lo hi = true ↔ lo ≤ v ∧ v ≤ hi := by unfold inB; exact decide_eq_true_iff
theorem in_nat {v : Int32} {n : Nat} {hi : Int32} (h : inB v 0 hi = true) (hh : hi = nI n) (hn : n < 2 ^ 31) : ∃ k, k ≤ n ∧ v = nI k := by
  obtain ⟨h1, h2⟩ := inB_t.mp h
  obtain ⟨k, hk, rfl⟩ := nI_of (Int32.not_lt.mpr h1)
  refine ⟨k, ?_, rfl⟩
  rw [hh] at h2
  exact Nat.le_of_not_lt fun q => nI_ge q hk h2
theorem cell_nat {v : Int32} (h : cellB v = true) : ∃ k, k < 96 ∧ v = nI k := by
  unfold cellB at h
  rw [decide_eq_true_iff] at h
  obtain ⟨k, hk, rfl⟩ := nI_of h.1
  exact ⟨k, Nat.lt_of_not_le fun q => h.2 (nI_le (a := 96) q hk), rfl⟩
theorem cty_nat {v : Int32} (h : ctyB v = true) : ∃ k, k < 8 ∧ v = nI k := by
  unfold ctyB at h
  rw [decide_eq_true_iff] at h
  obtain ⟨k, hk, rfl⟩ := nI_of h.1
  exact ⟨k, Nat.lt_of_not_le fun q => h.2 (nI_le (a := 8) q hk), rfl⟩
theorem mul_add_nI (a x y : Nat) : nI a * nI x + nI y = nI (a * x + y) := by rw [nI_mu, nI_add]
def hasR (I : AI) (v : Int32) : Bool := inB v 0 2 && decide (¬ I 105 (nv v) = 0)
theorem c_hasRadar (γ : GE) {b c : Bool} {I : AI} {J : AJ} (v : Int32) : Ct γ mX12_hasRadar 1 0 0 [.ref 100, .int v] (SS b c) I J (rI (bi (hasR I v)) (SS b c) I J) := by
  refine ct_of okX12_hasRadar (L := [some (.ref 100), some (.int v)]) (Nat.le_of_ble_eq_true rfl) rfl ?_
  refine r_run okX12_hasRadar 4 (cs := []) (σ' := (4, [some (.ref 100), some (.int v)], [.int 2, .int 0, .int v, .ref 100], (SS b c), I, J, 0, 0)) rfl trivial ?_
  refine r_callV okX12_hasRadar okX12_isIn [.int v, .int 0, .int 2] [] 100 rfl rfl rfl kkX12_isIn rfl rfl (by decide) rfl rfl rfl (by decide) ⟨Nat.le_refl _, Nat.le_refl _⟩ (Nat.le_of_ble_eq_true rfl) (c_isIn γ v 0 2) (fun v1 S1 I1 J1 hp => ?_)
  obtain ⟨rfl, rfl, rfl, rfl⟩ := hp
  show Rj _ _ _ _ _ _ (7, [some (.ref 100), some (.int v)], [.int (bi (inB v 0 2))], (SS b c), I, J, 0, 0)
  refine r_ifc okX12_hasRadar rfl (fun (h7 : (bi (inB v 0 2)) = (0 : Int32)) => ?_) (fun (h7 : ¬ (bi (inB v 0 2)) = (0 : Int32)) => ?_)
  · have h7 : inB v 0 2 = false := bi_0.mp h7
    refine r_run okX12_hasRadar 1 (cs := []) (σ' := (24, [some (.ref 100), some (.int v)], [.int 0], (SS b c), I, J, 0, 0)) rfl trivial ?_
    refine r_iret okX12_hasRadar rfl rfl (by decide +kernel) (Nat.le_refl _) (Nat.le_refl _) ?_
    exact ⟨by simp [hasR, bi, nv, *], rfl, rfl, rfl⟩
  · have h7 : inB v 0 2 = true := bi_n0.mp h7
    have hvin : vp_in v 3 := by obtain ⟨k, hk, rfl⟩ := in_nat h7 (n := 2) rfl (by decide); exact vin (by omega) (by decide)
    refine r_run okX12_hasRadar 4 (cs := [vp_in v 3]) (σ' := (16, [some (.ref 100), some (.int v)], [.int (I 105 v.toNatClampNeg)], (SS b c), I, J, 0, 0)) rfl ⟨hvin, trivial⟩ ?_
    refine r_ifc okX12_hasRadar rfl (fun (h16 : (I 105 v.toNatClampNeg) = (0 : Int32)) => ?_) (fun (h16 : ¬ (I 105 v.toNatClampNeg) = (0 : Int32)) => ?_)
    · refine r_run okX12_hasRadar 1 (cs := []) (σ' := (24, [some (.ref 100), some (.int v)], [.int 0], (SS b c), I, J, 0, 0)) rfl trivial ?_
      refine r_iret okX12_hasRadar rfl rfl (by decide +kernel) (Nat.le_refl _) (Nat.le_refl _) ?_
      exact ⟨by simp [hasR, bi, nv, *], rfl, rfl, rfl⟩
    · refine r_run okX12_hasRadar 2 (cs := []) (σ' := (24, [some (.ref 100), some (.int v)], [.int 1], (SS b c), I, J, 0, 0)) rfl trivial ?_
      refine r_iret okX12_hasRadar rfl rfl (by decide +kernel) (Nat.le_refl _) (Nat.le_refl _) ?_
      exact ⟨by simp [hasR, bi, nv, *], rfl, rfl, rfl⟩
theorem c_sees0 (γ : GE) {b c : Bool} {I : AI} {J : AJ} (hI : MRad I) (r x : Nat) (hr : r < 3) (hx : x < 96) : Ct γ mX12_sees 1 0 0 [.ref 100, .int (nI r), .int (nI x)] (SS b c) I J (rI (bi (seesB I r x)) (SS b c) I J) := by
  obtain ⟨-, ⟨p, hp, ep⟩, ⟨q, hq, eq⟩, -⟩ := hI.1 r hr
  have cr : (nI r).toNatClampNeg = r := nI_clamp (by omega)
  have cx : ((96 : Int32) * nI r + nI x).toNatClampNeg = 96 * r + x := by rw [show (96 : Int32) * nI r + nI x = nI (96 * r + x) from mul_add_nI 96 r x]; exact nI_clamp (by omega)
  refine ct_of okX12_sees (L := [some (.ref 100), some (.int (nI r)), some (.int (nI x))]) (Nat.le_of_ble_eq_true rfl) rfl ?_
  refine r_run okX12_sees 4 (cs := [vp_in (nI r) 3]) (σ' := (6, [some (.ref 100), some (.int (nI r)), some (.int (nI x))], [.int (I 105 ((nI r).toNatClampNeg))], (SS b c), I, J, 0, 0)) rfl ⟨(vin hr (by decide)), trivial⟩ ?_
  simp only [cr]
  show Rj _ _ _ _ _ _ (6, [some (.ref 100), some (.int (nI r)), some (.int (nI x))], [.int (I 105 r)], (SS b c), I, J, 0, 0)
  refine r_ifc okX12_sees rfl (fun (h6 : (I 105 r) = (0 : Int32)) => ?_) (fun (h6 : ¬ (I 105 r) = (0 : Int32)) => ?_)
  · refine r_run okX12_sees 1 (cs := []) (σ' := (48, [some (.ref 100), some (.int (nI r)), some (.int (nI x))], [.int 0], (SS b c), I, J, 0, 0)) rfl trivial ?_
    refine r_iret okX12_sees rfl rfl (by decide +kernel) (Nat.le_refl _) (Nat.le_refl _) ?_
    exact ⟨by simp [seesB, bi, ep, eq, nv_nI (show p < 2 ^ 31 by omega), nv_nI (show q < 2 ^ 31 by omega), *], rfl, rfl, rfl⟩
  · refine r_run okX12_sees 6 (cs := [vp_in (nI r) 3]) (σ' := (17, [some (.ref 100), some (.int (nI r)), some (.int (nI x))], [.int (I 106 ((nI r).toNatClampNeg)), .int (nI x), .ref 100], (SS b c), I, J, 0, 0)) rfl ⟨(vin hr (by decide)), trivial⟩ ?_
    simp only [cr]
    show Rj _ _ _ _ _ _ (17, [some (.ref 100), some (.int (nI r)), some (.int (nI x))], [.int (I 106 r), .int (nI x), .ref 100], (SS b c), I, J, 0, 0)
    refine r_callV okX12_sees okX12_far [.int (nI x), .int (I 106 r)] [] 100 rfl rfl rfl kkX12_far rfl rfl (by decide) rfl rfl rfl (by decide) ⟨Nat.le_refl _, Nat.le_refl _⟩ (Nat.le_of_ble_eq_true rfl) (c_far γ hx hp rfl ep) (fun v1 S1 I1 J1 hp => ?_)
    obtain ⟨rfl, rfl, rfl, rfl⟩ := hp
    show Rj _ _ _ _ _ _ (20, [some (.ref 100), some (.int (nI r)), some (.int (nI x))], [.int (nI (farN x p))], (SS b c), I, J, 0, 0)
    refine r_run okX12_sees 4 (cs := [vp_in (nI r) 3]) (σ' := (26, [some (.ref 100), some (.int (nI r)), some (.int (nI x))], [.int (I 107 ((nI r).toNatClampNeg)), .int (nI (farN x p))], (SS b c), I, J, 0, 0)) rfl ⟨(vin hr (by decide)), trivial⟩ ?_
    simp only [cr]
    show Rj _ _ _ _ _ _ (26, [some (.ref 100), some (.int (nI r)), some (.int (nI x))], [.int (I 107 r), .int (nI (farN x p))], (SS b c), I, J, 0, 0)
    refine r_icmp okX12_sees rfl (fun (h26 : (I 107 r) < (nI (farN x p))) => ?_) (fun (h26 : ¬ (I 107 r) < (nI (farN x p))) => ?_)
    · have hN : ¬ farN x p ≤ q := fun z => absurd h26 (by rw [eq]; exact nI_nlt z (by omega))
      refine r_run okX12_sees 1 (cs := []) (σ' := (48, [some (.ref 100), some (.int (nI r)), some (.int (nI x))], [.int 0], (SS b c), I, J, 0, 0)) rfl trivial ?_
      refine r_iret okX12_sees rfl rfl (by decide +kernel) (Nat.le_refl _) (Nat.le_refl _) ?_
      exact ⟨by simp [seesB, bi, ep, eq, nv_nI (show p < 2 ^ 31 by omega), nv_nI (show q < 2 ^ 31 by omega), *], rfl, rfl, rfl⟩
    · have hN : farN x p ≤ q := Nat.le_of_not_lt fun z => h26 (by rw [eq]; exact nI_lt z (by unfold farN dst; omega))
      refine r_run okX12_sees 8 (cs := [vp_in ((96 * (nI r)) + (nI x)) 288]) (σ' := (40, [some (.ref 100), some (.int (nI r)), some (.int (nI x))], [.int (I 109 (((96 * (nI r)) + (nI x)).toNatClampNeg))], (SS b c), I, J, 0, 0)) rfl ⟨(by rw [show (96 : Int32) * nI r + nI x = nI (96 * r + x) from mul_add_nI 96 r x]; exact vin (by omega) (by decide)), trivial⟩ ?_
      simp only [cx]
      show Rj _ _ _ _ _ _ (40, [some (.ref 100), some (.int (nI r)), some (.int (nI x))], [.int (I 109 (96 * r + x))], (SS b c), I, J, 0, 0)
      refine r_ifc okX12_sees rfl (fun (h40 : ¬ (I 109 (96 * r + x)) = (0 : Int32)) => ?_) (fun h400 => ?_)
      · refine r_run okX12_sees 1 (cs := []) (σ' := (48, [some (.ref 100), some (.int (nI r)), some (.int (nI x))], [.int 0], (SS b c), I, J, 0, 0)) rfl trivial ?_
        refine r_iret okX12_sees rfl rfl (by decide +kernel) (Nat.le_refl _) (Nat.le_refl _) ?_
        exact ⟨by simp [seesB, bi, ep, eq, nv_nI (show p < 2 ^ 31 by omega), nv_nI (show q < 2 ^ 31 by omega), *], rfl, rfl, rfl⟩
      · have h40 : (I 109 (96 * r + x)) = (0 : Int32) := Classical.not_not.mp h400
        refine r_run okX12_sees 2 (cs := []) (σ' := (48, [some (.ref 100), some (.int (nI r)), some (.int (nI x))], [.int 1], (SS b c), I, J, 0, 0)) rfl trivial ?_
        refine r_iret okX12_sees rfl rfl (by decide +kernel) (Nat.le_refl _) (Nat.le_refl _) ?_
        exact ⟨by simp [seesB, bi, ep, eq, nv_nI (show p < 2 ^ 31 by omega), nv_nI (show q < 2 ^ 31 by omega), *], rfl, rfl, rfl⟩
theorem c_sees (γ : GE) {b c : Bool} {I : AI} {J : AJ} (hI : MRad I) {r x : Nat} {R X : Int32} (hr : r < 3) (hx : x < 96) (eR : R = nI r) (eX : X = nI x) : Ct γ mX12_sees 1 0 0 [.ref 100, .int R, .int X] (SS b c) I J (rI (bi (seesB I r x)) (SS b c) I J) := by
  subst eR; subst eX
  exact c_sees0 γ hI r x hr hx
