/-! ===== StormOffice: guards, land .. blind, on ===== -/
theorem cell_in {v : Int32} : inB v 0 95 = cellB v := by
  unfold inB cellB
  have e : (0 ≤ v ∧ v ≤ 95) = (¬ v < 0 ∧ ¬ 96 ≤ v) := by
    apply propext
    rw [Int32.le_iff_toInt_le, Int32.le_iff_toInt_le, Int32.lt_iff_toInt_lt, Int32.le_iff_toInt_le, show (0 : Int32).toInt = 0 from rfl, show (95 : Int32).toInt = 95 from rfl, show (96 : Int32).toInt = 96 from rfl]
    omega
  simp only [e]
theorem cty_in {v : Int32} : inB v 0 7 = ctyB v := by
  unfold inB ctyB
  have e : (0 ≤ v ∧ v ≤ 7) = (¬ v < 0 ∧ ¬ 8 ≤ v) := by
    apply propext
    rw [Int32.le_iff_toInt_le, Int32.le_iff_toInt_le, Int32.lt_iff_toInt_lt, Int32.le_iff_toInt_le, show (0 : Int32).toInt = 0 from rfl, show (7 : Int32).toInt = 7 from rfl, show (8 : Int32).toInt = 8 from rfl]
    omega
  simp only [e]
theorem cty_lt {X : Int32} (hx : ctyB X = true) : nv X < 8 ∧ X = nI (nv X) := by
  obtain ⟨k, hk, e⟩ := cty_nat hx
  rw [e, nv_nI (by omega)]; exact ⟨hk, rfl⟩
theorem in_lt {X : Int32} {n : Nat} {hi : Int32} (h : inB X 0 hi = true) (hh : hi = nI n) (hn : n < 2 ^ 31) : nv X ≤ n ∧ X = nI (nv X) := by
  obtain ⟨k, hk, e⟩ := in_nat h hh hn
  rw [e, nv_nI (by omega)]; exact ⟨hk, rfl⟩
theorem o_win (γ : GE) {S : List Sh} {I : AI} {J : AJ} (v lo hi : Int32) : Ct γ mX11_within 0 0 0 [.int v, .int lo, .int hi] S I J (rI (bi (inB v lo hi)) S I J) := by
  refine ct_of okX11_within (L := [some (.int v), some (.int lo), some (.int hi)]) (Nat.le_of_ble_eq_true rfl) rfl ?_
  refine r_run okX11_within 2 (cs := []) (σ' := (2, [some (.int v), some (.int lo), some (.int hi)], [.int lo, .int v], S, I, J, 0, 0)) rfl trivial ?_
  refine r_icmp okX11_within rfl (fun (h2 : v < lo) => ?_) (fun (h2 : ¬ v < lo) => ?_)
  · refine r_run okX11_within 1 (cs := []) (σ' := (15, [some (.int v), some (.int lo), some (.int hi)], [.int 0], S, I, J, 0, 0)) rfl trivial ?_
    refine r_iret okX11_within rfl rfl (by decide +kernel) (Nat.le_refl _) (Nat.le_refl _) ?_
    try simp only [cI] at *
    refine ⟨?_, rfl, rfl, rfl⟩
    simp only [inB, ← Int32.not_lt]
    simp [bi, *]
  · refine r_run okX11_within 2 (cs := []) (σ' := (7, [some (.int v), some (.int lo), some (.int hi)], [.int hi, .int v], S, I, J, 0, 0)) rfl trivial ?_
    refine r_icmp okX11_within rfl (fun (h7 : hi < v) => ?_) (fun (h7 : ¬ hi < v) => ?_)
    · refine r_run okX11_within 1 (cs := []) (σ' := (15, [some (.int v), some (.int lo), some (.int hi)], [.int 0], S, I, J, 0, 0)) rfl trivial ?_
      refine r_iret okX11_within rfl rfl (by decide +kernel) (Nat.le_refl _) (Nat.le_refl _) ?_
      try simp only [cI] at *
      refine ⟨?_, rfl, rfl, rfl⟩
      simp only [inB, ← Int32.not_lt]
      simp [bi, *]
    · refine r_run okX11_within 2 (cs := []) (σ' := (15, [some (.int v), some (.int lo), some (.int hi)], [.int 1], S, I, J, 0, 0)) rfl trivial ?_
      refine r_iret okX11_within rfl rfl (by decide +kernel) (Nat.le_refl _) (Nat.le_refl _) ?_
      try simp only [cI] at *
      refine ⟨?_, rfl, rfl, rfl⟩
      simp only [inB, ← Int32.not_lt]
      simp [bi, *]
theorem o_isCell (γ : GE) {S : List Sh} {I : AI} {J : AJ} (v : Int32) : Ct γ mX11_isCell 1 0 0 [.int v] S I J (rI (bi (cellB v)) S I J) := by
  refine ct_of okX11_isCell (L := [some (.int v)]) (Nat.le_of_ble_eq_true rfl) rfl ?_
  refine r_run okX11_isCell 3 (cs := []) (σ' := (4, [some (.int v)], [.int 95, .int 0, .int v], S, I, J, 0, 0)) rfl trivial ?_
  refine r_callS okX11_isCell okX11_within [.int v, .int 0, .int 95] [] rfl rfl rfl kkX11_within rfl rfl (by decide) (by decide) ⟨Nat.le_refl _, Nat.le_refl _⟩ (Nat.le_of_ble_eq_true rfl) (o_win γ v 0 95) (fun v1 S1 I1 J1 hp => ?_)
  obtain ⟨rfl, rfl, rfl, rfl⟩ := hp
  show Rj _ _ _ _ _ _ (7, [some (.int v)], [.int (bi (inB v 0 95))], S, I, J, 0, 0)
  refine r_iret okX11_isCell rfl rfl (nar_b (bi_bz _)) (Nat.le_refl _) (Nat.le_refl _) ?_
  exact ⟨by rw [cell_in], rfl, rfl, rfl⟩
theorem o_isCounty (γ : GE) {S : List Sh} {I : AI} {J : AJ} (v : Int32) : Ct γ mX11_isCounty 1 0 0 [.int v] S I J (rI (bi (ctyB v)) S I J) := by
  refine ct_of okX11_isCounty (L := [some (.int v)]) (Nat.le_of_ble_eq_true rfl) rfl ?_
  refine r_run okX11_isCounty 3 (cs := []) (σ' := (4, [some (.int v)], [.int 7, .int 0, .int v], S, I, J, 0, 0)) rfl trivial ?_
  refine r_callS okX11_isCounty okX11_within [.int v, .int 0, .int 7] [] rfl rfl rfl kkX11_within rfl rfl (by decide) (by decide) ⟨Nat.le_refl _, Nat.le_refl _⟩ (Nat.le_of_ble_eq_true rfl) (o_win γ v 0 7) (fun v1 S1 I1 J1 hp => ?_)
  obtain ⟨rfl, rfl, rfl, rfl⟩ := hp
  show Rj _ _ _ _ _ _ (7, [some (.int v)], [.int (bi (inB v 0 7))], S, I, J, 0, 0)
  refine r_iret okX11_isCounty rfl rfl (nar_b (bi_bz _)) (Nat.le_refl _) (Nat.le_refl _) ?_
  exact ⟨by rw [cty_in], rfl, rfl, rfl⟩
theorem o_isSpan (γ : GE) {S : List Sh} {I : AI} {J : AJ} (v : Int32) : Ct γ mX11_isSpan 1 0 0 [.int v] S I J (rI (bi (spnB v)) S I J) := by
  refine ct_of okX11_isSpan (L := [some (.int v)]) (Nat.le_of_ble_eq_true rfl) rfl ?_
  refine r_run okX11_isSpan 3 (cs := []) (σ' := (4, [some (.int v)], [.int 12, .int 1, .int v], S, I, J, 0, 0)) rfl trivial ?_
  refine r_callS okX11_isSpan okX11_within [.int v, .int 1, .int 12] [] rfl rfl rfl kkX11_within rfl rfl (by decide) (by decide) ⟨Nat.le_refl _, Nat.le_refl _⟩ (Nat.le_of_ble_eq_true rfl) (o_win γ v 1 12) (fun v1 S1 I1 J1 hp => ?_)
  obtain ⟨rfl, rfl, rfl, rfl⟩ := hp
  show Rj _ _ _ _ _ _ (7, [some (.int v)], [.int (bi (inB v 1 12))], S, I, J, 0, 0)
  refine r_iret okX11_isSpan rfl rfl (nar_b (bi_bz _)) (Nat.le_refl _) (Nat.le_refl _) ?_
  exact ⟨rfl, rfl, rfl, rfl⟩
theorem o_isPast (γ : GE) {b c : Bool} {I : AI} {J : AJ} (hN : ONow I) (v : Int32) : Ct γ mX11_isPast 1 0 0 [.ref 0, .int v] (SS b c) I J (rI (bi (inB v 0 (I 100 5))) (SS b c) I J) := by
  refine ct_of okX11_isPast (L := [some (.ref 0), some (.int v)]) (Nat.le_of_ble_eq_true rfl) rfl ?_
  refine r_run okX11_isPast 4 (cs := []) (σ' := (6, [some (.ref 0), some (.int v)], [.int (I 0 15), .int 0, .int v], (SS b c), I, J, 0, 0)) rfl trivial ?_
  simp only [hN.1]
  show Rj _ _ _ _ _ _ (6, [some (.ref 0), some (.int v)], [.int (I 100 5), .int 0, .int v], (SS b c), I, J, 0, 0)
  refine r_callS okX11_isPast okX11_within [.int v, .int 0, .int (I 100 5)] [] rfl rfl rfl kkX11_within rfl rfl (by decide) (by decide) ⟨Nat.le_refl _, Nat.le_refl _⟩ (Nat.le_of_ble_eq_true rfl) (o_win γ v 0 (I 100 5)) (fun v1 S1 I1 J1 hp => ?_)
  obtain ⟨rfl, rfl, rfl, rfl⟩ := hp
  show Rj _ _ _ _ _ _ (9, [some (.ref 0), some (.int v)], [.int (bi (inB v 0 (I 100 5)))], (SS b c), I, J, 0, 0)
  refine r_iret okX11_isPast rfl rfl (nar_b (bi_bz _)) (Nat.le_refl _) (Nat.le_refl _) ?_
  exact ⟨rfl, rfl, rfl, rfl⟩
theorem o_isRadar (γ : GE) {b c : Bool} {I : AI} {J : AJ} (hR : ORad I J) (hM : MRad I) (v : Int32) : Ct γ mX11_isRadar 1 0 0 [.ref 0, .int v] (SS b c) I J (rI (bi (hasR I v)) (SS b c) I J) := by
  refine ct_of okX11_isRadar (L := [some (.ref 0), some (.int v)]) (Nat.le_of_ble_eq_true rfl) rfl ?_
  refine r_run okX11_isRadar 3 (cs := []) (σ' := (3, [some (.ref 0), some (.int v)], [.int 2, .int 0, .int v], (SS b c), I, J, 0, 0)) rfl trivial ?_
  refine r_callS okX11_isRadar okX11_within [.int v, .int 0, .int 2] [] rfl rfl rfl kkX11_within rfl rfl (by decide) (by decide) ⟨Nat.le_refl _, Nat.le_refl _⟩ (Nat.le_of_ble_eq_true rfl) (o_win γ v 0 2) (fun v1 S1 I1 J1 hp => ?_)
  obtain ⟨rfl, rfl, rfl, rfl⟩ := hp
  show Rj _ _ _ _ _ _ (6, [some (.ref 0), some (.int v)], [.int (bi (inB v 0 2))], (SS b c), I, J, 0, 0)
  refine r_ifc okX11_isRadar rfl (fun (h6 : (bi (inB v 0 2)) = (0 : Int32)) => ?_) (fun (h6 : ¬ (bi (inB v 0 2)) = (0 : Int32)) => ?_)
  · have h6s := bi_0.mp h6
    refine r_run okX11_isRadar 1 (cs := []) (σ' := (26, [some (.ref 0), some (.int v)], [.int 0], (SS b c), I, J, 0, 0)) rfl trivial ?_
    refine r_iret okX11_isRadar rfl rfl (by decide +kernel) (Nat.le_refl _) (Nat.le_refl _) ?_
    exact ⟨by unfold hasR; rw [h6s]; rfl, rfl, rfl, rfl⟩
  · have h6s := bi_n0.mp h6
    have hr := in_lt (n := 2) h6s rfl (by decide)
    have hO := hR (nv v) (Nat.lt_succ_of_le hr.1)
    refine r_run okX11_isRadar 3 (cs := []) (σ' := (14, [some (.ref 0), some (.int v)], [.int v, .ref 16], (SS b c), I, J, 0, 0)) rfl trivial ?_
    refine r_aald okX11_isRadar rfl rfl (by rw [hr.2]; exact vin (Nat.lt_succ_of_le hr.1) (by decide)) (by first | exact Or.inl rfl | exact Or.inr rfl) (by have h := L16 (nv v) (Nat.lt_succ_of_le hr.1); rw [← hr.2] at h; exact h) ?_
    show Rj _ _ _ _ _ _ (15, [some (.ref 0), some (.int v)], [.ref (17 + 4 * nv v)], (SS b c), I, J, 0, 0)
    refine r_callV okX11_isRadar okX4_isThere [] [] (17 + 4 * nv v) rfl rfl rfl kkX4_isThere rfl rfl (by decide) (SSr (Nat.lt_succ_of_le hr.1)) rfl rfl (by decide) ⟨Nat.le_refl _, Nat.le_refl _⟩ (Nat.le_of_ble_eq_true rfl) (o_isThere γ (Nat.lt_succ_of_le hr.1) (by rw [hO.1]; exact (hM.1 _ (Nat.lt_succ_of_le hr.1)).1)) (fun v1 S1 I1 J1 hp => ?_)
    obtain ⟨rfl, rfl, rfl, rfl⟩ := hp
    show Rj _ _ _ _ _ _ (18, [some (.ref 0), some (.int v)], [.int (I (17 + 4 * nv v) 3)], (SS b c), I, J, 0, 0)
    refine r_ifc okX11_isRadar rfl (fun (h18 : (I (17 + 4 * nv v) 3) = (0 : Int32)) => ?_) (fun (h18 : ¬ (I (17 + 4 * nv v) 3) = (0 : Int32)) => ?_)
    · refine r_run okX11_isRadar 1 (cs := []) (σ' := (26, [some (.ref 0), some (.int v)], [.int 0], (SS b c), I, J, 0, 0)) rfl trivial ?_
      refine r_iret okX11_isRadar rfl rfl (by decide +kernel) (Nat.le_refl _) (Nat.le_refl _) ?_
      exact ⟨by unfold hasR; rw [h6s, ← hO.1, h18]; rfl, rfl, rfl, rfl⟩
    · refine r_run okX11_isRadar 2 (cs := []) (σ' := (26, [some (.ref 0), some (.int v)], [.int 1], (SS b c), I, J, 0, 0)) rfl trivial ?_
      refine r_iret okX11_isRadar rfl rfl (by decide +kernel) (Nat.le_refl _) (Nat.le_refl _) ?_
      exact ⟨by unfold hasR; rw [h6s, ← hO.1, decide_eq_true h18]; rfl, rfl, rfl, rfl⟩
theorem o_settleX (γ : GE) {b c : Bool} {I : AI} {J : AJ} {x k0 k : Nat} (hx : x < 96) (hk0 : k0 < 8) (hk : k < 8) (e0 : I 2 x = nI k0) (n s : Int32) {X K : Int32} (eX : X = nI x) (eK : K = nI k) : Ct γ mX2_settle 1 0 0 [.ref 1, .int X, .int K, .int n, .int s] (SS b c) I J (rV (SS b c) (stlI I x k0 k n s) (setJ (setJ J (8 + k0) x false) (8 + k) x true)) := by
  subst eX; subst eK; exact o_settle γ hx hk0 hk e0 n s
def landI (I : AI) (x y n s : Int32) : AI := if landB x y n s then stlI I (nv x) (nv (I 101 (nv x))) (nv y) n s else I
def landJ (I : AI) (J : AJ) (x y n s : Int32) : AJ := if landB x y n s then setJ (setJ J (8 + nv (I 101 (nv x))) (nv x) false) (8 + nv y) (nv x) true else J
theorem o_land (γ : GE) {b c : Bool} {I : AI} {J : AJ} (hL : OLd I) (hM : MLand I) (x y n s : Int32) : Ct γ mX11_land 2 0 0 [.ref 0, .int x, .int y, .int n, .int s] (SS b c) I J (rI (bi (landB x y n s)) (SS b c) (landI I x y n s) (landJ I J x y n s)) := by
  refine ct_of okX11_land (L := [some (.ref 0), some (.int x), some (.int y), some (.int n), some (.int s)]) (Nat.le_of_ble_eq_true rfl) rfl ?_
  refine r_run okX11_land 1 (cs := []) (σ' := (1, [some (.ref 0), some (.int x), some (.int y), some (.int n), some (.int s)], [.int x], (SS b c), I, J, 0, 0)) rfl trivial ?_
  refine r_callS okX11_land okX11_isCell [.int x] [] rfl rfl rfl kkX11_isCell rfl rfl (by decide) (by decide) ⟨Nat.le_refl _, Nat.le_refl _⟩ (Nat.le_of_ble_eq_true rfl) (o_isCell γ x) (fun v1 S1 I1 J1 hp => ?_)
  obtain ⟨rfl, rfl, rfl, rfl⟩ := hp
  show Rj _ _ _ _ _ _ (4, [some (.ref 0), some (.int x), some (.int y), some (.int n), some (.int s)], [.int (bi (cellB x))], (SS b c), I, J, 0, 0)
  refine r_ifc okX11_land rfl (fun (h4 : (bi (cellB x)) = (0 : Int32)) => ?_) (fun (h4 : ¬ (bi (cellB x)) = (0 : Int32)) => ?_)
  · have h4s := bi_0.mp h4
    refine r_run okX11_land 1 (cs := []) (σ' := (37, [some (.ref 0), some (.int x), some (.int y), some (.int n), some (.int s)], [.int 0], (SS b c), I, J, 0, 0)) rfl trivial ?_
    refine r_iret okX11_land rfl rfl (by decide +kernel) (Nat.le_refl _) (Nat.le_refl _) ?_
    have hb : landB x y n s = false := by unfold landB; rw [h4s]; rfl
    refine ⟨by rw [hb]; rfl, rfl, by unfold landI; rw [hb]; rfl, by unfold landJ; rw [hb]; rfl⟩
  · have h4s := bi_n0.mp h4
    refine r_run okX11_land 1 (cs := []) (σ' := (8, [some (.ref 0), some (.int x), some (.int y), some (.int n), some (.int s)], [.int y], (SS b c), I, J, 0, 0)) rfl trivial ?_
    refine r_callS okX11_land okX11_isCounty [.int y] [] rfl rfl rfl kkX11_isCounty rfl rfl (by decide) (by decide) ⟨Nat.le_refl _, Nat.le_refl _⟩ (Nat.le_of_ble_eq_true rfl) (o_isCounty γ y) (fun v1 S1 I1 J1 hp => ?_)
    obtain ⟨rfl, rfl, rfl, rfl⟩ := hp
    show Rj _ _ _ _ _ _ (11, [some (.ref 0), some (.int x), some (.int y), some (.int n), some (.int s)], [.int (bi (ctyB y))], (SS b c), I, J, 0, 0)
    refine r_ifc okX11_land rfl (fun (h11 : (bi (ctyB y)) = (0 : Int32)) => ?_) (fun (h11 : ¬ (bi (ctyB y)) = (0 : Int32)) => ?_)
    · have h11s := bi_0.mp h11
      refine r_run okX11_land 1 (cs := []) (σ' := (37, [some (.ref 0), some (.int x), some (.int y), some (.int n), some (.int s)], [.int 0], (SS b c), I, J, 0, 0)) rfl trivial ?_
      refine r_iret okX11_land rfl rfl (by decide +kernel) (Nat.le_refl _) (Nat.le_refl _) ?_
      have hb : landB x y n s = false := by unfold landB; rw [h4s, h11s]; rfl
      refine ⟨by rw [hb]; rfl, rfl, by unfold landI; rw [hb]; rfl, by unfold landJ; rw [hb]; rfl⟩
    · have h11s := bi_n0.mp h11
      refine r_run okX11_land 3 (cs := []) (σ' := (19, [some (.ref 0), some (.int x), some (.int y), some (.int n), some (.int s)], [.int 999, .int 0, .int n], (SS b c), I, J, 0, 0)) rfl trivial ?_
      refine r_callS okX11_land okX11_within [.int n, .int 0, .int 999] [] rfl rfl rfl kkX11_within rfl rfl (by decide) (by decide) ⟨Nat.le_refl _, Nat.le_refl _⟩ (Nat.le_of_ble_eq_true rfl) (o_win γ n 0 999) (fun v1 S1 I1 J1 hp => ?_)
      obtain ⟨rfl, rfl, rfl, rfl⟩ := hp
      show Rj _ _ _ _ _ _ (22, [some (.ref 0), some (.int x), some (.int y), some (.int n), some (.int s)], [.int (bi (inB n 0 999))], (SS b c), I, J, 0, 0)
      refine r_ifc okX11_land rfl (fun (h22 : (bi (inB n 0 999)) = (0 : Int32)) => ?_) (fun (h22 : ¬ (bi (inB n 0 999)) = (0 : Int32)) => ?_)
      · have h22s := bi_0.mp h22
        refine r_run okX11_land 1 (cs := []) (σ' := (37, [some (.ref 0), some (.int x), some (.int y), some (.int n), some (.int s)], [.int 0], (SS b c), I, J, 0, 0)) rfl trivial ?_
        refine r_iret okX11_land rfl rfl (by decide +kernel) (Nat.le_refl _) (Nat.le_refl _) ?_
        have hb : landB x y n s = false := by unfold landB; rw [h4s, h11s, h22s]; rfl
        refine ⟨by rw [hb]; rfl, rfl, by unfold landI; rw [hb]; rfl, by unfold landJ; rw [hb]; rfl⟩
      · have h22s := bi_n0.mp h22
        refine r_run okX11_land 3 (cs := []) (σ' := (30, [some (.ref 0), some (.int x), some (.int y), some (.int n), some (.int s)], [.int 30, .int 0, .int s], (SS b c), I, J, 0, 0)) rfl trivial ?_
        refine r_callS okX11_land okX11_within [.int s, .int 0, .int 30] [] rfl rfl rfl kkX11_within rfl rfl (by decide) (by decide) ⟨Nat.le_refl _, Nat.le_refl _⟩ (Nat.le_of_ble_eq_true rfl) (o_win γ s 0 30) (fun v1 S1 I1 J1 hp => ?_)
        obtain ⟨rfl, rfl, rfl, rfl⟩ := hp
        show Rj _ _ _ _ _ _ (33, [some (.ref 0), some (.int x), some (.int y), some (.int n), some (.int s)], [.int (bi (inB s 0 30))], (SS b c), I, J, 0, 0)
        refine r_ifc okX11_land rfl (fun (h33 : ¬ (bi (inB s 0 30)) = (0 : Int32)) => ?_) (fun h330 => ?_)
        · have h33s := bi_n0.mp h33
          refine r_run okX11_land 6 (cs := []) (σ' := (47, [some (.ref 0), some (.int x), some (.int y), some (.int n), some (.int s)], [.int s, .int n, .int y, .int x, .ref 1], (SS b c), I, J, 0, 0)) rfl trivial ?_
          refine r_callV okX11_land okX2_settle [.int x, .int y, .int n, .int s] [] 1 rfl rfl rfl kkX2_settle rfl rfl (by decide) rfl rfl rfl (by decide) ⟨Nat.le_refl _, Nat.le_refl _⟩ (Nat.le_of_ble_eq_true rfl) (o_settleX γ (cell_lt h4s).1 (rg_nv (hM _ (cell_lt h4s).1).1 (by decide)).1 (cty_lt h11s).1 (((hL _ (cell_lt h4s).1).1).trans (rg_nv (hM _ (cell_lt h4s).1).1 (by decide)).2) n s (cell_lt h4s).2 (cty_lt h11s).2) (fun v1 S1 I1 J1 hp => ?_)
          obtain ⟨rfl, rfl, rfl, rfl⟩ := hp
          show Rj _ _ _ _ _ _ (50, [some (.ref 0), some (.int x), some (.int y), some (.int n), some (.int s)], [], (SS b c), (stlI I (nv x) (nv (I 101 (nv x))) (nv y) n s), (setJ (setJ J (8 + nv (I 101 (nv x))) (nv x) false) (8 + nv y) (nv x) true), 0, 0)
          refine r_run okX11_land 1 (cs := []) (σ' := (51, [some (.ref 0), some (.int x), some (.int y), some (.int n), some (.int s)], [.int 1], (SS b c), (stlI I (nv x) (nv (I 101 (nv x))) (nv y) n s), (setJ (setJ J (8 + nv (I 101 (nv x))) (nv x) false) (8 + nv y) (nv x) true), 0, 0)) rfl trivial ?_
          refine r_iret okX11_land rfl rfl (by decide +kernel) (Nat.le_refl _) (Nat.le_refl _) ?_
          have hb : landB x y n s = true := by unfold landB; rw [h4s, h11s, h22s, h33s]; rfl
          refine ⟨by rw [hb]; rfl, rfl, by unfold landI; rw [if_pos hb], by unfold landJ; rw [if_pos hb]⟩
        · have h33 : (bi (inB s 0 30)) = (0 : Int32) := Classical.not_not.mp h330
          have h33s := bi_0.mp h33
          refine r_run okX11_land 1 (cs := []) (σ' := (37, [some (.ref 0), some (.int x), some (.int y), some (.int n), some (.int s)], [.int 0], (SS b c), I, J, 0, 0)) rfl trivial ?_
          refine r_iret okX11_land rfl rfl (by decide +kernel) (Nat.le_refl _) (Nat.le_refl _) ?_
          have hb : landB x y n s = false := by unfold landB; rw [h4s, h11s, h22s, h33s]; rfl
          refine ⟨by rw [hb]; rfl, rfl, by unfold landI; rw [hb]; rfl, by unfold landJ; rw [hb]; rfl⟩
theorem o_siren (γ : GE) {b c : Bool} {I : AI} {J : AJ} {f : Nat → Bool} (hc : cs J 7 f) (x : Int32) (z : Bool) : Ct γ mX11_siren 2 0 0 [.ref 0, .int x, .int (bi z)] (SS b c) I J (fun rt S' I' J' => some (.int (bi (cellB x))) = rt ∧ (SS b c) = S' ∧ I = I' ∧ (cellB x = true → kJ [7] J J' ∧ cs J' 7 (fun y => if y = nv x then z else f y)) ∧ (cellB x = false → J = J')) := by
  refine ct_of okX11_siren (L := [some (.ref 0), some (.int x), some (.int (bi z))]) (Nat.le_of_ble_eq_true rfl) rfl ?_
  refine r_run okX11_siren 1 (cs := []) (σ' := (1, [some (.ref 0), some (.int x), some (.int (bi z))], [.int x], (SS b c), I, J, 0, 0)) rfl trivial ?_
  refine r_callS okX11_siren okX11_isCell [.int x] [] rfl rfl rfl kkX11_isCell rfl rfl (by decide) (by decide) ⟨Nat.le_refl _, Nat.le_refl _⟩ (Nat.le_of_ble_eq_true rfl) (o_isCell γ x) (fun v1 S1 I1 J1 hp => ?_)
  obtain ⟨rfl, rfl, rfl, rfl⟩ := hp
  show Rj _ _ _ _ _ _ (4, [some (.ref 0), some (.int x), some (.int (bi z))], [.int (bi (cellB x))], (SS b c), I, J, 0, 0)
  refine r_ifc okX11_siren rfl (fun (h4 : ¬ (bi (cellB x)) = (0 : Int32)) => ?_) (fun h40 => ?_)
  · have h4s := bi_n0.mp h4
    refine r_run okX11_siren 5 (cs := []) (σ' := (18, [some (.ref 0), some (.int x), some (.int (bi z))], [.int (bi z), .int x, .ref 7], (SS b c), I, J, 0, 0)) rfl trivial ?_
    refine r_callV okX11_siren okX0_set [.int x, .int (bi z)] [] 7 rfl rfl rfl kkX0_set rfl rfl (by decide) rfl rfl rfl (by decide) ⟨Nat.le_refl _, Nat.le_refl _⟩ (Nat.le_of_ble_eq_true rfl) (a_set γ rfl hc (x := nv x) (cell_lt h4s).1 (cell_lt h4s).2 z rfl) (fun v1 S1 I1 J1 hp => ?_)
    obtain ⟨rfl, rfl, rfl, J1, rfl, k1, c1⟩ := hp
    show Rj _ _ _ _ _ _ (21, [some (.ref 0), some (.int x), some (.int (bi z))], [], (SS b c), I, J1, 0, 0)
    refine r_run okX11_siren 1 (cs := []) (σ' := (22, [some (.ref 0), some (.int x), some (.int (bi z))], [.int 1], (SS b c), I, J1, 0, 0)) rfl trivial ?_
    refine r_iret okX11_siren rfl rfl (by decide +kernel) (Nat.le_refl _) (Nat.le_refl _) ?_
    exact ⟨by rw [h4s]; rfl, rfl, rfl, fun _ => ⟨k1, c1⟩, (fun q => absurd (h4s.symm.trans q) (by decide))⟩
  · have h4 : (bi (cellB x)) = (0 : Int32) := Classical.not_not.mp h40
    have h4s := bi_0.mp h4
    refine r_run okX11_siren 1 (cs := []) (σ' := (8, [some (.ref 0), some (.int x), some (.int (bi z))], [.int 0], (SS b c), I, J, 0, 0)) rfl trivial ?_
    refine r_iret okX11_siren rfl rfl (by decide +kernel) (Nat.le_refl _) (Nat.le_refl _) ?_
    exact ⟨by rw [h4s]; rfl, rfl, rfl, (fun q => absurd (h4s.symm.trans q) (by decide)), fun _ => rfl⟩
theorem o_storm (γ : GE) {b c : Bool} {I : AI} {J : AJ} (m s : Int32) : Ct γ mX11_storm 2 0 0 [.ref 0, .int m, .int s] (SS b c) I J (rI (bi (stoB m s)) (SS b c) (if stoB m s then upI (upI (upI I 37 6 m) 37 7 s) 37 9 0 else I) J) := by
  refine ct_of okX11_storm (L := [some (.ref 0), some (.int m), some (.int s)]) (Nat.le_of_ble_eq_true rfl) rfl ?_
  refine r_run okX11_storm 3 (cs := []) (σ' := (5, [some (.ref 0), some (.int m), some (.int s)], [.int 511, .int 1, .int m], (SS b c), I, J, 0, 0)) rfl trivial ?_
  refine r_callS okX11_storm okX11_within [.int m, .int 1, .int 511] [] rfl rfl rfl kkX11_within rfl rfl (by decide) (by decide) ⟨Nat.le_refl _, Nat.le_refl _⟩ (Nat.le_of_ble_eq_true rfl) (o_win γ m 1 511) (fun v1 S1 I1 J1 hp => ?_)
  obtain ⟨rfl, rfl, rfl, rfl⟩ := hp
  show Rj _ _ _ _ _ _ (8, [some (.ref 0), some (.int m), some (.int s)], [.int (bi (inB m 1 511))], (SS b c), I, J, 0, 0)
  refine r_ifc okX11_storm rfl (fun (h8 : (bi (inB m 1 511)) = (0 : Int32)) => ?_) (fun (h8 : ¬ (bi (inB m 1 511)) = (0 : Int32)) => ?_)
  · have h8s := bi_0.mp h8
    refine r_run okX11_storm 1 (cs := []) (σ' := (23, [some (.ref 0), some (.int m), some (.int s)], [.int 0], (SS b c), I, J, 0, 0)) rfl trivial ?_
    refine r_iret okX11_storm rfl rfl (by decide +kernel) (Nat.le_refl _) (Nat.le_refl _) ?_
    have hb : stoB m s = false := by unfold stoB; rw [h8s]; rfl
    exact ⟨by rw [hb]; rfl, rfl, by rw [hb]; rfl, rfl⟩
  · have h8s := bi_n0.mp h8
    refine r_run okX11_storm 3 (cs := []) (σ' := (16, [some (.ref 0), some (.int m), some (.int s)], [.int 719, .int 0, .int s], (SS b c), I, J, 0, 0)) rfl trivial ?_
    refine r_callS okX11_storm okX11_within [.int s, .int 0, .int 719] [] rfl rfl rfl kkX11_within rfl rfl (by decide) (by decide) ⟨Nat.le_refl _, Nat.le_refl _⟩ (Nat.le_of_ble_eq_true rfl) (o_win γ s 0 719) (fun v1 S1 I1 J1 hp => ?_)
    obtain ⟨rfl, rfl, rfl, rfl⟩ := hp
    show Rj _ _ _ _ _ _ (19, [some (.ref 0), some (.int m), some (.int s)], [.int (bi (inB s 0 719))], (SS b c), I, J, 0, 0)
    refine r_ifc okX11_storm rfl (fun (h19 : ¬ (bi (inB s 0 719)) = (0 : Int32)) => ?_) (fun h190 => ?_)
    · have h19s := bi_n0.mp h19
      refine r_run okX11_storm 4 (cs := []) (σ' := (30, [some (.ref 0), some (.int m), some (.int s)], [.int s, .int m, .ref 37], (SS b c), I, J, 0, 0)) rfl trivial ?_
      refine r_callV okX11_storm okX1_begin [.int m, .int s] [] 37 rfl rfl rfl kkX1_begin rfl rfl (by decide) rfl rfl rfl (by decide) ⟨Nat.le_refl _, Nat.le_refl _⟩ (Nat.le_of_ble_eq_true rfl) (o_begin γ m s) (fun v1 S1 I1 J1 hp => ?_)
      obtain ⟨rfl, rfl, rfl, rfl⟩ := hp
      show Rj _ _ _ _ _ _ (33, [some (.ref 0), some (.int m), some (.int s)], [], (SS b c), (upI (upI (upI I 37 6 m) 37 7 s) 37 9 0), J, 0, 0)
      refine r_run okX11_storm 1 (cs := []) (σ' := (34, [some (.ref 0), some (.int m), some (.int s)], [.int 1], (SS b c), (upI (upI (upI I 37 6 m) 37 7 s) 37 9 0), J, 0, 0)) rfl trivial ?_
      refine r_iret okX11_storm rfl rfl (by decide +kernel) (Nat.le_refl _) (Nat.le_refl _) ?_
      have hb : stoB m s = true := by unfold stoB; rw [h8s, h19s]; rfl
      exact ⟨by rw [hb]; rfl, rfl, by rw [if_pos hb], rfl⟩
    · have h19 : (bi (inB s 0 719)) = (0 : Int32) := Classical.not_not.mp h190
      have h19s := bi_0.mp h19
      refine r_run okX11_storm 1 (cs := []) (σ' := (23, [some (.ref 0), some (.int m), some (.int s)], [.int 0], (SS b c), I, J, 0, 0)) rfl trivial ?_
      refine r_iret okX11_storm rfl rfl (by decide +kernel) (Nat.le_refl _) (Nat.le_refl _) ?_
      have hb : stoB m s = false := by unfold stoB; rw [h8s, h19s]; rfl
      exact ⟨by rw [hb]; rfl, rfl, by rw [hb]; rfl, rfl⟩
theorem o_placeX (γ : GE) {b c : Bool} {I : AI} {J : AJ} {r : Nat} (hr : r < 3) {x f : Nat} (hx : x < 96) (hf : f < 12) (v : Int32) {X F : Int32} (eX : X = nI x) (eF : F = nI f) : Ct γ mX4_place 3 0 0 [.ref (17 + 4 * r), .int X, .int F, .int v] (SS b c) I J (fun rt S' I' J' => none = rt ∧ (SS b c) = S' ∧ upI (upI I (17 + 4 * r) 3 1) (17 + 4 * r) 4 v = I' ∧ kJ [(18 + 4 * r), (19 + 4 * r), (20 + 4 * r)] J J' ∧ cs J' (18 + 4 * r) (fun y => decide (farN y x ≤ f)) ∧ cs J' (19 + 4 * r) (fun y => decide (farN y x ≤ f)) ∧ cs J' (20 + 4 * r) (fun _ => false)) := by
  subst eX; subst eF; exact o_place γ hr hx hf v
/-- a radar is placed -/
def RdP (I : AI) (J : AJ) (r x f : Nat) (q : Int32) (I' : AI) (J' : AJ) : Prop := upI (upI (upI I (17 + 4 * r) 3 1) (17 + 4 * r) 4 q) 37 9 0 = I' ∧ kJ [(18 + 4 * r), (19 + 4 * r), (20 + 4 * r)] J J' ∧ cs J' (18 + 4 * r) (fun y => decide (farN y x ≤ f)) ∧ cs J' (19 + 4 * r) (fun y => decide (farN y x ≤ f)) ∧ cs J' (20 + 4 * r) (fun _ => false)
theorem o_radar (γ : GE) {b c : Bool} {I : AI} {J : AJ} (r x f q : Int32) : Ct γ mX11_radar 4 0 0 [.ref 0, .int r, .int x, .int f, .int q] (SS b c) I J (fun rt S' I' J' => some (.int (bi (radB r x f q))) = rt ∧ (SS b c) = S' ∧ (radB r x f q = true → RdP I J (nv r) (nv x) (nv f) q I' J') ∧ (radB r x f q = false → I = I' ∧ J = J')) := by
  refine ct_of okX11_radar (L := [some (.ref 0), some (.int r), some (.int x), some (.int f), some (.int q)]) (Nat.le_of_ble_eq_true rfl) rfl ?_
  refine r_run okX11_radar 3 (cs := []) (σ' := (3, [some (.ref 0), some (.int r), some (.int x), some (.int f), some (.int q)], [.int 2, .int 0, .int r], (SS b c), I, J, 0, 0)) rfl trivial ?_
  refine r_callS okX11_radar okX11_within [.int r, .int 0, .int 2] [] rfl rfl rfl kkX11_within rfl rfl (by decide) (by decide) ⟨Nat.le_refl _, Nat.le_refl _⟩ (Nat.le_of_ble_eq_true rfl) (o_win γ r 0 2) (fun v1 S1 I1 J1 hp => ?_)
  obtain ⟨rfl, rfl, rfl, rfl⟩ := hp
  show Rj _ _ _ _ _ _ (6, [some (.ref 0), some (.int r), some (.int x), some (.int f), some (.int q)], [.int (bi (inB r 0 2))], (SS b c), I, J, 0, 0)
  refine r_ifc okX11_radar rfl (fun (h6 : (bi (inB r 0 2)) = (0 : Int32)) => ?_) (fun (h6 : ¬ (bi (inB r 0 2)) = (0 : Int32)) => ?_)
  · have h6s := bi_0.mp h6
    refine r_run okX11_radar 1 (cs := []) (σ' := (37, [some (.ref 0), some (.int r), some (.int x), some (.int f), some (.int q)], [.int 0], (SS b c), I, J, 0, 0)) rfl trivial ?_
    refine r_iret okX11_radar rfl rfl (by decide +kernel) (Nat.le_refl _) (Nat.le_refl _) ?_
    have hb : radB r x f q = false := by unfold radB; rw [h6s]; rfl
    exact ⟨by rw [hb]; rfl, rfl, (fun z => absurd (hb.symm.trans z) (by decide)), fun _ => ⟨rfl, rfl⟩⟩
  · have h6s := bi_n0.mp h6
    refine r_run okX11_radar 1 (cs := []) (σ' := (10, [some (.ref 0), some (.int r), some (.int x), some (.int f), some (.int q)], [.int x], (SS b c), I, J, 0, 0)) rfl trivial ?_
    refine r_callS okX11_radar okX11_isCell [.int x] [] rfl rfl rfl kkX11_isCell rfl rfl (by decide) (by decide) ⟨Nat.le_refl _, Nat.le_refl _⟩ (Nat.le_of_ble_eq_true rfl) (o_isCell γ x) (fun v1 S1 I1 J1 hp => ?_)
    obtain ⟨rfl, rfl, rfl, rfl⟩ := hp
    show Rj _ _ _ _ _ _ (13, [some (.ref 0), some (.int r), some (.int x), some (.int f), some (.int q)], [.int (bi (cellB x))], (SS b c), I, J, 0, 0)
    refine r_ifc okX11_radar rfl (fun (h13 : (bi (cellB x)) = (0 : Int32)) => ?_) (fun (h13 : ¬ (bi (cellB x)) = (0 : Int32)) => ?_)
    · have h13s := bi_0.mp h13
      refine r_run okX11_radar 1 (cs := []) (σ' := (37, [some (.ref 0), some (.int r), some (.int x), some (.int f), some (.int q)], [.int 0], (SS b c), I, J, 0, 0)) rfl trivial ?_
      refine r_iret okX11_radar rfl rfl (by decide +kernel) (Nat.le_refl _) (Nat.le_refl _) ?_
      have hb : radB r x f q = false := by unfold radB; rw [h6s, h13s]; rfl
      exact ⟨by rw [hb]; rfl, rfl, (fun z => absurd (hb.symm.trans z) (by decide)), fun _ => ⟨rfl, rfl⟩⟩
    · have h13s := bi_n0.mp h13
      refine r_run okX11_radar 3 (cs := []) (σ' := (20, [some (.ref 0), some (.int r), some (.int x), some (.int f), some (.int q)], [.int 11, .int 0, .int f], (SS b c), I, J, 0, 0)) rfl trivial ?_
      refine r_callS okX11_radar okX11_within [.int f, .int 0, .int 11] [] rfl rfl rfl kkX11_within rfl rfl (by decide) (by decide) ⟨Nat.le_refl _, Nat.le_refl _⟩ (Nat.le_of_ble_eq_true rfl) (o_win γ f 0 11) (fun v1 S1 I1 J1 hp => ?_)
      obtain ⟨rfl, rfl, rfl, rfl⟩ := hp
      show Rj _ _ _ _ _ _ (23, [some (.ref 0), some (.int r), some (.int x), some (.int f), some (.int q)], [.int (bi (inB f 0 11))], (SS b c), I, J, 0, 0)
      refine r_ifc okX11_radar rfl (fun (h23 : (bi (inB f 0 11)) = (0 : Int32)) => ?_) (fun (h23 : ¬ (bi (inB f 0 11)) = (0 : Int32)) => ?_)
      · have h23s := bi_0.mp h23
        refine r_run okX11_radar 1 (cs := []) (σ' := (37, [some (.ref 0), some (.int r), some (.int x), some (.int f), some (.int q)], [.int 0], (SS b c), I, J, 0, 0)) rfl trivial ?_
        refine r_iret okX11_radar rfl rfl (by decide +kernel) (Nat.le_refl _) (Nat.le_refl _) ?_
        have hb : radB r x f q = false := by unfold radB; rw [h6s, h13s, h23s]; rfl
        exact ⟨by rw [hb]; rfl, rfl, (fun z => absurd (hb.symm.trans z) (by decide)), fun _ => ⟨rfl, rfl⟩⟩
      · have h23s := bi_n0.mp h23
        refine r_run okX11_radar 3 (cs := []) (σ' := (30, [some (.ref 0), some (.int r), some (.int x), some (.int f), some (.int q)], [.int 3, .int 0, .int q], (SS b c), I, J, 0, 0)) rfl trivial ?_
        refine r_callS okX11_radar okX11_within [.int q, .int 0, .int 3] [] rfl rfl rfl kkX11_within rfl rfl (by decide) (by decide) ⟨Nat.le_refl _, Nat.le_refl _⟩ (Nat.le_of_ble_eq_true rfl) (o_win γ q 0 3) (fun v1 S1 I1 J1 hp => ?_)
        obtain ⟨rfl, rfl, rfl, rfl⟩ := hp
        show Rj _ _ _ _ _ _ (33, [some (.ref 0), some (.int r), some (.int x), some (.int f), some (.int q)], [.int (bi (inB q 0 3))], (SS b c), I, J, 0, 0)
        refine r_ifc okX11_radar rfl (fun (h33 : ¬ (bi (inB q 0 3)) = (0 : Int32)) => ?_) (fun h330 => ?_)
        · have h33s := bi_n0.mp h33
          have hr := in_lt (n := 2) h6s rfl (by decide)
          have hf := in_lt (n := 11) h23s rfl (by decide)
          refine r_run okX11_radar 3 (cs := []) (σ' := (43, [some (.ref 0), some (.int r), some (.int x), some (.int f), some (.int q)], [.int r, .ref 16], (SS b c), I, J, 0, 0)) rfl trivial ?_
          refine r_aald okX11_radar rfl rfl (by rw [hr.2]; exact vin (Nat.lt_succ_of_le hr.1) (by decide)) (by first | exact Or.inl rfl | exact Or.inr rfl) (by have h := L16 (nv r) (Nat.lt_succ_of_le hr.1); rw [← hr.2] at h; exact h) ?_
          show Rj _ _ _ _ _ _ (44, [some (.ref 0), some (.int r), some (.int x), some (.int f), some (.int q)], [.ref (17 + 4 * nv r)], (SS b c), I, J, 0, 0)
          refine r_run okX11_radar 3 (cs := []) (σ' := (48, [some (.ref 0), some (.int r), some (.int x), some (.int f), some (.int q)], [.int q, .int f, .int x, .ref (17 + 4 * nv r)], (SS b c), I, J, 0, 0)) rfl trivial ?_
          refine r_callV okX11_radar okX4_place [.int x, .int f, .int q] [] (17 + 4 * nv r) rfl rfl rfl kkX4_place rfl rfl (by decide) (SSr (Nat.lt_succ_of_le hr.1)) rfl rfl (by decide) ⟨Nat.le_refl _, Nat.le_refl _⟩ (Nat.le_of_ble_eq_true rfl) (o_placeX γ (r := nv r) (Nat.lt_succ_of_le hr.1) (cell_lt h13s).1 (Nat.lt_succ_of_le hf.1) q (cell_lt h13s).2 hf.2) (fun v1 S1 I1 J1 hp => ?_)
          obtain ⟨rfl, rfl, rfl, k3, c31, c32, c33⟩ := hp
          obtain ⟨J3, hJ3⟩ : ∃ z, z = J1 := ⟨_, rfl⟩
          subst hJ3
          show Rj _ _ _ _ _ _ (51, [some (.ref 0), some (.int r), some (.int x), some (.int f), some (.int q)], [], (SS b c), (upI (upI I (17 + 4 * nv r) 3 1) (17 + 4 * nv r) 4 q), J3, 0, 0)
          refine r_run okX11_radar 2 (cs := []) (σ' := (55, [some (.ref 0), some (.int r), some (.int x), some (.int f), some (.int q)], [.ref 37], (SS b c), (upI (upI I (17 + 4 * nv r) 3 1) (17 + 4 * nv r) 4 q), J3, 0, 0)) rfl trivial ?_
          refine r_callV okX11_radar okX1_forget [] [] 37 rfl rfl rfl kkX1_forget rfl rfl (by decide) rfl rfl rfl (by decide) ⟨Nat.le_refl _, Nat.le_refl _⟩ (Nat.le_of_ble_eq_true rfl) (o_forget γ) (fun v1 S1 I1 J1 hp => ?_)
          obtain ⟨rfl, rfl, rfl, rfl⟩ := hp
          show Rj _ _ _ _ _ _ (58, [some (.ref 0), some (.int r), some (.int x), some (.int f), some (.int q)], [], (SS b c), (upI (upI (upI I (17 + 4 * nv r) 3 1) (17 + 4 * nv r) 4 q) 37 9 0), J3, 0, 0)
          refine r_run okX11_radar 1 (cs := []) (σ' := (59, [some (.ref 0), some (.int r), some (.int x), some (.int f), some (.int q)], [.int 1], (SS b c), (upI (upI (upI I (17 + 4 * nv r) 3 1) (17 + 4 * nv r) 4 q) 37 9 0), J3, 0, 0)) rfl trivial ?_
          refine r_iret okX11_radar rfl rfl (by decide +kernel) (Nat.le_refl _) (Nat.le_refl _) ?_
          have hb : radB r x f q = true := by unfold radB; rw [h6s, h13s, h23s, h33s]; rfl
          exact ⟨by rw [hb]; rfl, rfl, fun _ => ⟨rfl, k3, c31, c32, c33⟩, (fun z => absurd (hb.symm.trans z) (by decide))⟩
        · have h33 : (bi (inB q 0 3)) = (0 : Int32) := Classical.not_not.mp h330
          have h33s := bi_0.mp h33
          refine r_run okX11_radar 1 (cs := []) (σ' := (37, [some (.ref 0), some (.int r), some (.int x), some (.int f), some (.int q)], [.int 0], (SS b c), I, J, 0, 0)) rfl trivial ?_
          refine r_iret okX11_radar rfl rfl (by decide +kernel) (Nat.le_refl _) (Nat.le_refl _) ?_
          have hb : radB r x f q = false := by unfold radB; rw [h6s, h13s, h23s, h33s]; rfl
          exact ⟨by rw [hb]; rfl, rfl, (fun z => absurd (hb.symm.trans z) (by decide)), fun _ => ⟨rfl, rfl⟩⟩
theorem o_isBlindX (γ : GE) {b c : Bool} {I : AI} {J : AJ} {r : Nat} (hr : r < 3) {g : Nat → Bool} (hg : cs J (20 + 4 * r) g) {x : Nat} (hx : x < 96) {X : Int32} (eX : X = nI x) : Ct γ mX4_isBlind 1 0 0 [.ref (17 + 4 * r), .int X] (SS b c) I J (rI (bi (g x)) (SS b c) I J) := by
  subst eX; exact o_isBlind γ hr hg hx
theorem o_turnBlindX (γ : GE) {b c : Bool} {I : AI} {J : AJ} {r : Nat} (hr : r < 3) {f g : Nat → Bool} (hf : cs J (19 + 4 * r) f) (hg : cs J (20 + 4 * r) g) {x : Nat} (hx : x < 96) (z : Bool) {X : Int32} (eX : X = nI x) : Ct γ mX4_turnBlind 3 0 0 [.ref (17 + 4 * r), .int X, .int (bi z)] (SS b c) I J (fun rt S' I' J' => none = rt ∧ (SS b c) = S' ∧ I = I' ∧ kJ [(18 + 4 * r), (20 + 4 * r)] J J' ∧ cs J' (18 + 4 * r) (fun y => f y && !(if y = x then z else g y)) ∧ cs J' (19 + 4 * r) f ∧ cs J' (20 + 4 * r) (fun y => if y = x then z else g y)) := by
  subst eX; exact o_turnBlind γ hr hf hg hx z
def BlP (I : AI) (J : AJ) (r x : Nat) (z : Bool) (I' : AI) (J' : AJ) : Prop := upI I 37 9 0 = I' ∧ kJ [(18 + 4 * r), (20 + 4 * r)] J J' ∧ cs J' (18 + 4 * r) (fun y => decide (farN y (nv (I 106 r)) ≤ nv (I 107 r)) && !(if y = x then z else decide (¬ I 109 (96 * r + y) = 0))) ∧ cs J' (19 + 4 * r) (fun y => decide (farN y (nv (I 106 r)) ≤ nv (I 107 r))) ∧ cs J' (20 + 4 * r) (fun y => if y = x then z else decide (¬ I 109 (96 * r + y) = 0))
theorem bi_inj {a d : Bool} (h : bi a = bi d) : a = d := by cases a <;> cases d <;> first | rfl | (exact absurd h (by decide))
theorem o_blind (γ : GE) {b c : Bool} {I : AI} {J : AJ} (hR : ORad I J) (hM : MRad I) (r x : Int32) (z : Bool) : Ct γ mX11_blind 4 0 0 [.ref 0, .int r, .int x, .int (bi z)] (SS b c) I J (fun rt S' I' J' => some (.int (bi (bliB I r x z))) = rt ∧ (SS b c) = S' ∧ (bliB I r x z = true → BlP I J (nv r) (nv x) z I' J') ∧ (bliB I r x z = false → I = I' ∧ J = J')) := by
  refine ct_of okX11_blind (L := [some (.ref 0), some (.int r), some (.int x), some (.int (bi z))]) (Nat.le_of_ble_eq_true rfl) rfl ?_
  refine r_run okX11_blind 2 (cs := []) (σ' := (2, [some (.ref 0), some (.int r), some (.int x), some (.int (bi z))], [.int r, .ref 0], (SS b c), I, J, 0, 0)) rfl trivial ?_
  refine r_callV okX11_blind okX11_isRadar [.int r] [] 0 rfl rfl rfl kkX11_isRadar rfl rfl (by decide) rfl rfl rfl (by decide) ⟨Nat.le_refl _, Nat.le_refl _⟩ (Nat.le_of_ble_eq_true rfl) (o_isRadar γ hR hM r) (fun v1 S1 I1 J1 hp => ?_)
  obtain ⟨rfl, rfl, rfl, rfl⟩ := hp
  show Rj _ _ _ _ _ _ (5, [some (.ref 0), some (.int r), some (.int x), some (.int (bi z))], [.int (bi (hasR I r))], (SS b c), I, J, 0, 0)
  refine r_ifc okX11_blind rfl (fun (h5 : (bi (hasR I r)) = (0 : Int32)) => ?_) (fun (h5 : ¬ (bi (hasR I r)) = (0 : Int32)) => ?_)
  · have h5s := bi_0.mp h5
    refine r_run okX11_blind 1 (cs := []) (σ' := (30, [some (.ref 0), some (.int r), some (.int x), some (.int (bi z))], [.int 0], (SS b c), I, J, 0, 0)) rfl trivial ?_
    refine r_iret okX11_blind rfl rfl (by decide +kernel) (Nat.le_refl _) (Nat.le_refl _) ?_
    have hb : bliB I r x z = false := by unfold bliB; rw [h5s]; rfl
    exact ⟨by rw [hb]; rfl, rfl, (fun q => absurd (hb.symm.trans q) (by decide)), fun _ => ⟨rfl, rfl⟩⟩
  · have h5s := bi_n0.mp h5
    have hr : nv r < 3 ∧ r = nI (nv r) := by obtain ⟨k, hk, e⟩ := hasR_nat h5s; rw [e, nv_nI (by omega)]; exact ⟨hk, rfl⟩
    have hO := hR (nv r) hr.1
    have hth : ¬ I 105 (nv r) = 0 := by unfold hasR at h5s; rw [Bool.and_eq_true] at h5s; exact of_decide_eq_true h5s.2
    refine r_run okX11_blind 1 (cs := []) (σ' := (9, [some (.ref 0), some (.int r), some (.int x), some (.int (bi z))], [.int x], (SS b c), I, J, 0, 0)) rfl trivial ?_
    refine r_callS okX11_blind okX11_isCell [.int x] [] rfl rfl rfl kkX11_isCell rfl rfl (by decide) (by decide) ⟨Nat.le_refl _, Nat.le_refl _⟩ (Nat.le_of_ble_eq_true rfl) (o_isCell γ x) (fun v1 S1 I1 J1 hp => ?_)
    obtain ⟨rfl, rfl, rfl, rfl⟩ := hp
    show Rj _ _ _ _ _ _ (12, [some (.ref 0), some (.int r), some (.int x), some (.int (bi z))], [.int (bi (cellB x))], (SS b c), I, J, 0, 0)
    refine r_ifc okX11_blind rfl (fun (h12 : (bi (cellB x)) = (0 : Int32)) => ?_) (fun (h12 : ¬ (bi (cellB x)) = (0 : Int32)) => ?_)
    · have h12s := bi_0.mp h12
      refine r_run okX11_blind 1 (cs := []) (σ' := (30, [some (.ref 0), some (.int r), some (.int x), some (.int (bi z))], [.int 0], (SS b c), I, J, 0, 0)) rfl trivial ?_
      refine r_iret okX11_blind rfl rfl (by decide +kernel) (Nat.le_refl _) (Nat.le_refl _) ?_
      have hb : bliB I r x z = false := by unfold bliB; rw [h5s, h12s]; rfl
      exact ⟨by rw [hb]; rfl, rfl, (fun q => absurd (hb.symm.trans q) (by decide)), fun _ => ⟨rfl, rfl⟩⟩
    · have h12s := bi_n0.mp h12
      refine r_run okX11_blind 3 (cs := []) (σ' := (20, [some (.ref 0), some (.int r), some (.int x), some (.int (bi z))], [.int r, .ref 16], (SS b c), I, J, 0, 0)) rfl trivial ?_
      refine r_aald okX11_blind rfl rfl (by rw [hr.2]; exact vin hr.1 (by decide)) (by first | exact Or.inl rfl | exact Or.inr rfl) (by have h := L16 (nv r) hr.1; rw [← hr.2] at h; exact h) ?_
      show Rj _ _ _ _ _ _ (21, [some (.ref 0), some (.int r), some (.int x), some (.int (bi z))], [.ref (17 + 4 * nv r)], (SS b c), I, J, 0, 0)
      refine r_run okX11_blind 1 (cs := []) (σ' := (22, [some (.ref 0), some (.int r), some (.int x), some (.int (bi z))], [.int x, .ref (17 + 4 * nv r)], (SS b c), I, J, 0, 0)) rfl trivial ?_
      refine r_callV okX11_blind okX4_isBlind [.int x] [] (17 + 4 * nv r) rfl rfl rfl kkX4_isBlind rfl rfl (by decide) (SSr hr.1) rfl rfl (by decide) ⟨Nat.le_refl _, Nat.le_refl _⟩ (Nat.le_of_ble_eq_true rfl) (o_isBlindX γ hr.1 hO.2.2.2.1 (cell_lt h12s).1 (cell_lt h12s).2) (fun v1 S1 I1 J1 hp => ?_)
      obtain ⟨rfl, rfl, rfl, rfl⟩ := hp
      show Rj _ _ _ _ _ _ (25, [some (.ref 0), some (.int r), some (.int x), some (.int (bi z))], [.int (bi ((fun x => decide (¬ I 109 (96 * nv r + x) = 0)) (nv x)))], (SS b c), I, J, 0, 0)
      refine r_run okX11_blind 1 (cs := []) (σ' := (26, [some (.ref 0), some (.int r), some (.int x), some (.int (bi z))], [.int (bi z), .int (bi ((fun x => decide (¬ I 109 (96 * nv r + x) = 0)) (nv x)))], (SS b c), I, J, 0, 0)) rfl trivial ?_
      refine r_icmp okX11_blind rfl (fun (h26 : ¬ (bi ((fun x => decide (¬ I 109 (96 * nv r + x) = 0)) (nv x))) = (bi z)) => ?_) (fun h260 => ?_)
      · refine r_run okX11_blind 3 (cs := []) (σ' := (36, [some (.ref 0), some (.int r), some (.int x), some (.int (bi z))], [.int r, .ref 16], (SS b c), I, J, 0, 0)) rfl trivial ?_
        refine r_aald okX11_blind rfl rfl (by rw [hr.2]; exact vin hr.1 (by decide)) (by first | exact Or.inl rfl | exact Or.inr rfl) (by have h := L16 (nv r) hr.1; rw [← hr.2] at h; exact h) ?_
        show Rj _ _ _ _ _ _ (37, [some (.ref 0), some (.int r), some (.int x), some (.int (bi z))], [.ref (17 + 4 * nv r)], (SS b c), I, J, 0, 0)
        refine r_run okX11_blind 2 (cs := []) (σ' := (39, [some (.ref 0), some (.int r), some (.int x), some (.int (bi z))], [.int (bi z), .int x, .ref (17 + 4 * nv r)], (SS b c), I, J, 0, 0)) rfl trivial ?_
        refine r_callV okX11_blind okX4_turnBlind [.int x, .int (bi z)] [] (17 + 4 * nv r) rfl rfl rfl kkX4_turnBlind rfl rfl (by decide) (SSr hr.1) rfl rfl (by decide) ⟨Nat.le_refl _, Nat.le_refl _⟩ (Nat.le_of_ble_eq_true rfl) (o_turnBlindX γ hr.1 (hO.2.2.2.2 hth) hO.2.2.2.1 (cell_lt h12s).1 z (cell_lt h12s).2) (fun v1 S1 I1 J1 hp => ?_)
        obtain ⟨rfl, rfl, rfl, k3, c31, c32, c33⟩ := hp
        obtain ⟨J3, hJ3⟩ : ∃ z, z = J1 := ⟨_, rfl⟩
        subst hJ3
        show Rj _ _ _ _ _ _ (42, [some (.ref 0), some (.int r), some (.int x), some (.int (bi z))], [], (SS b c), I, J3, 0, 0)
        refine r_run okX11_blind 2 (cs := []) (σ' := (46, [some (.ref 0), some (.int r), some (.int x), some (.int (bi z))], [.ref 37], (SS b c), I, J3, 0, 0)) rfl trivial ?_
        refine r_callV okX11_blind okX1_forget [] [] 37 rfl rfl rfl kkX1_forget rfl rfl (by decide) rfl rfl rfl (by decide) ⟨Nat.le_refl _, Nat.le_refl _⟩ (Nat.le_of_ble_eq_true rfl) (o_forget γ) (fun v1 S1 I1 J1 hp => ?_)
        obtain ⟨rfl, rfl, rfl, rfl⟩ := hp
        show Rj _ _ _ _ _ _ (49, [some (.ref 0), some (.int r), some (.int x), some (.int (bi z))], [], (SS b c), (upI I 37 9 0), J3, 0, 0)
        refine r_run okX11_blind 1 (cs := []) (σ' := (50, [some (.ref 0), some (.int r), some (.int x), some (.int (bi z))], [.int 1], (SS b c), (upI I 37 9 0), J3, 0, 0)) rfl trivial ?_
        refine r_iret okX11_blind rfl rfl (by decide +kernel) (Nat.le_refl _) (Nat.le_refl _) ?_
        have hx := (cell_lt h12s).1
        have hbl : I 109 (96 * nv r + nv x) = bi (decide (¬ I 109 (96 * nv r + nv x) = 0)) := by
          rcases hM.2 (96 * nv r + nv x) (by omega) with q | q
          · rw [q]; rfl
          · rw [q]; rfl
        have hb : bliB I r x z = true := by unfold bliB; rw [h5s, h12s, decide_eq_true (show ¬ I 109 (96 * nv r + nv x) = bi z from fun q => h26 (by rw [← q]; exact hbl.symm))]; rfl
        exact ⟨by rw [hb]; rfl, rfl, fun _ => ⟨rfl, k3, c31, c32, c33⟩, (fun q => absurd (hb.symm.trans q) (by decide))⟩
      · have h26 : (bi ((fun x => decide (¬ I 109 (96 * nv r + x) = 0)) (nv x))) = (bi z) := Classical.not_not.mp h260
        refine r_run okX11_blind 1 (cs := []) (σ' := (30, [some (.ref 0), some (.int r), some (.int x), some (.int (bi z))], [.int 0], (SS b c), I, J, 0, 0)) rfl trivial ?_
        refine r_iret okX11_blind rfl rfl (by decide +kernel) (Nat.le_refl _) (Nat.le_refl _) ?_
        have hx := (cell_lt h12s).1
        have hbl : I 109 (96 * nv r + nv x) = bi (decide (¬ I 109 (96 * nv r + nv x) = 0)) := by
          rcases hM.2 (96 * nv r + nv x) (by omega) with q | q
          · rw [q]; rfl
          · rw [q]; rfl
        have hb : bliB I r x z = false := by unfold bliB; rw [h5s, h12s, decide_eq_false (fun q => q (hbl.trans h26))]; rfl
        exact ⟨by rw [hb]; rfl, rfl, (fun q => absurd (hb.symm.trans q) (by decide)), fun _ => ⟨rfl, rfl⟩⟩
theorem o_on (γ : GE) {b c : Bool} {I : AI} {J : AJ} (z : Bool) : Ct γ mX11_on 0 0 0 [.ref 0, .int (bi z)] (SS b c) I J (rV (SS b c) (upI I 0 14 (bi z)) J) := by
  refine ct_of okX11_on (L := [some (.ref 0), some (.int (bi z))]) (Nat.le_of_ble_eq_true rfl) rfl ?_
  refine r_run okX11_on 3 (cs := [bz (bi z)]) (σ' := (5, [some (.ref 0), some (.int (bi z))], [], (SS b c), (upI I 0 14 (bi z)), J, 0, 0)) rfl ⟨(bi_bz z), trivial⟩ ?_
  refine r_vret okX11_on rfl rfl (Nat.le_refl _) (Nat.le_refl _) ?_
  exact ⟨rfl, rfl, rfl, rfl⟩
