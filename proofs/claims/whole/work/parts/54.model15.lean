/-! ===== the reference: warn, lift, warning, look, truth, safe ===== -/
def waB (y m : Int32) : Bool := ctyB y && inB m 1 60
def waV (I : AI) (y m : Int32) : Int32 := if waB y m then begV I y else -1
def waN (I : AI) (y m : Int32) : AI := if waB y m then begN I y m else I
def liB (I : AI) (y : Int32) : Bool := ctyB y && lifB I y
def liN (I : AI) (y : Int32) : AI := if ctyB y then lifN I y else I
theorem c_Mwarn (γ : GE) {b c : Bool} {I : AI} {J : AJ} (hT : I 100 0 = 0) (hI : MWar I) (hL : MLand I) (y m : Int32) : Ct γ mX12_warn 2 0 0 [.ref 100, .int y, .int m] (SS b c) I J (rI (waV I y m) (SS b c) (waN I y m) J) := by
  have ht := told0 hT
  refine ct_of okX12_warn (L := [some (.ref 100), some (.int y), some (.int m)]) (Nat.le_of_ble_eq_true rfl) rfl ?_
  refine r_run okX12_warn 5 (cs := []) (σ' := (7, [some (.ref 100), some (.int y), some (.int m)], [.int y, .ref 100], (SS b c), (upI I 100 0 0), J, 0, 0)) rfl trivial ?_
  simp only [ht]
  show Rj _ _ _ _ _ _ (7, [some (.ref 100), some (.int y), some (.int m)], [.int y, .ref 100], (SS b c), I, J, 0, 0)
  refine r_callV okX12_warn okX12_isCounty [.int y] [] 100 rfl rfl rfl kkX12_isCounty rfl rfl (by decide) rfl rfl rfl (by decide) ⟨Nat.le_refl _, Nat.le_refl _⟩ (Nat.le_of_ble_eq_true rfl) (c_isCounty γ y) (fun v1 S1 I1 J1 hp => ?_)
  obtain ⟨rfl, rfl, rfl, rfl⟩ := hp
  show Rj _ _ _ _ _ _ (10, [some (.ref 100), some (.int y), some (.int m)], [.int (bi (ctyB y))], (SS b c), I, J, 0, 0)
  refine r_ifc okX12_warn rfl (fun (h10 : (bi (ctyB y)) = (0 : Int32)) => ?_) (fun (h10 : ¬ (bi (ctyB y)) = (0 : Int32)) => ?_)
  · have h10s := bi_0.mp h10
    refine r_run okX12_warn 1 (cs := []) (σ' := (34, [some (.ref 100), some (.int y), some (.int m)], [.int (-1)], (SS b c), I, J, 0, 0)) rfl trivial ?_
    refine r_iret okX12_warn rfl rfl rfl (Nat.le_refl _) (Nat.le_refl _) ?_
    exact ⟨by simp [waV, waB, *], rfl, by simp [waN, waB, *], rfl⟩
  · have h10s := bi_n0.mp h10
    refine r_run okX12_warn 4 (cs := []) (σ' := (18, [some (.ref 100), some (.int y), some (.int m)], [.int 60, .int 1, .int m, .ref 100], (SS b c), I, J, 0, 0)) rfl trivial ?_
    refine r_callV okX12_warn okX12_isIn [.int m, .int 1, .int 60] [] 100 rfl rfl rfl kkX12_isIn rfl rfl (by decide) rfl rfl rfl (by decide) ⟨Nat.le_refl _, Nat.le_refl _⟩ (Nat.le_of_ble_eq_true rfl) (c_isIn γ m 1 60) (fun v1 S1 I1 J1 hp => ?_)
    obtain ⟨rfl, rfl, rfl, rfl⟩ := hp
    show Rj _ _ _ _ _ _ (21, [some (.ref 100), some (.int y), some (.int m)], [.int (bi (inB m 1 60))], (SS b c), I, J, 0, 0)
    refine r_ifc okX12_warn rfl (fun (h21 : (bi (inB m 1 60)) = (0 : Int32)) => ?_) (fun (h21 : ¬ (bi (inB m 1 60)) = (0 : Int32)) => ?_)
    · have h21s := bi_0.mp h21
      refine r_run okX12_warn 1 (cs := []) (σ' := (34, [some (.ref 100), some (.int y), some (.int m)], [.int (-1)], (SS b c), I, J, 0, 0)) rfl trivial ?_
      refine r_iret okX12_warn rfl rfl rfl (Nat.le_refl _) (Nat.le_refl _) ?_
      exact ⟨by simp [waV, waB, *], rfl, by simp [waN, waB, *], rfl⟩
    · have h21s := bi_n0.mp h21
      refine r_run okX12_warn 3 (cs := []) (σ' := (27, [some (.ref 100), some (.int y), some (.int m)], [.int m, .int y, .ref 100], (SS b c), I, J, 0, 0)) rfl trivial ?_
      refine r_callV okX12_warn okX12_begin [.int y, .int m] [] 100 rfl rfl rfl kkX12_begin rfl rfl (by decide) rfl rfl rfl (by decide) ⟨Nat.le_refl _, Nat.le_refl _⟩ (Nat.le_of_ble_eq_true rfl) (c_begin γ hI hL y m h10s) (fun v1 S1 I1 J1 hp => ?_)
      obtain ⟨rfl, rfl, rfl, rfl⟩ := hp
      show Rj _ _ _ _ _ _ (30, [some (.ref 100), some (.int y), some (.int m)], [.int (begV I y)], (SS b c), (begN I y m), J, 0, 0)
      refine r_run okX12_warn 1 (cs := []) (σ' := (34, [some (.ref 100), some (.int y), some (.int m)], [.int (begV I y)], (SS b c), (begN I y m), J, 0, 0)) rfl trivial ?_
      refine r_iret okX12_warn rfl rfl rfl (Nat.le_refl _) (Nat.le_refl _) ?_
      exact ⟨by simp [waV, waB, *], rfl, by simp [waN, waB, *], rfl⟩
theorem c_Mlift (γ : GE) {b c : Bool} {I : AI} {J : AJ} (hT : I 100 0 = 0) (hI : MWar I) (hL : MLand I) (y : Int32) : Ct γ mX12_lift 2 0 0 [.ref 100, .int y] (SS b c) I J (rI (bi (liB I y)) (SS b c) (liN I y) J) := by
  have ht := told0 hT
  refine ct_of okX12_lift (L := [some (.ref 100), some (.int y)]) (Nat.le_of_ble_eq_true rfl) rfl ?_
  refine r_run okX12_lift 5 (cs := []) (σ' := (7, [some (.ref 100), some (.int y)], [.int y, .ref 100], (SS b c), (upI I 100 0 0), J, 0, 0)) rfl trivial ?_
  simp only [ht]
  show Rj _ _ _ _ _ _ (7, [some (.ref 100), some (.int y)], [.int y, .ref 100], (SS b c), I, J, 0, 0)
  refine r_callV okX12_lift okX12_isCounty [.int y] [] 100 rfl rfl rfl kkX12_isCounty rfl rfl (by decide) rfl rfl rfl (by decide) ⟨Nat.le_refl _, Nat.le_refl _⟩ (Nat.le_of_ble_eq_true rfl) (c_isCounty γ y) (fun v1 S1 I1 J1 hp => ?_)
  obtain ⟨rfl, rfl, rfl, rfl⟩ := hp
  show Rj _ _ _ _ _ _ (10, [some (.ref 100), some (.int y)], [.int (bi (ctyB y))], (SS b c), I, J, 0, 0)
  refine r_ifc okX12_lift rfl (fun (h10 : (bi (ctyB y)) = (0 : Int32)) => ?_) (fun (h10 : ¬ (bi (ctyB y)) = (0 : Int32)) => ?_)
  · have h10s := bi_0.mp h10
    refine r_run okX12_lift 1 (cs := []) (σ' := (26, [some (.ref 100), some (.int y)], [.int 0], (SS b c), I, J, 0, 0)) rfl trivial ?_
    refine r_iret okX12_lift rfl rfl (by decide +kernel) (Nat.le_refl _) (Nat.le_refl _) ?_
    exact ⟨by simp [liB, bi_t, bi_f, *], rfl, by simp [liN, *], rfl⟩
  · have h10s := bi_n0.mp h10
    refine r_run okX12_lift 2 (cs := []) (σ' := (15, [some (.ref 100), some (.int y)], [.int y, .ref 100], (SS b c), I, J, 0, 0)) rfl trivial ?_
    refine r_callV okX12_lift okX12_lifts [.int y] [] 100 rfl rfl rfl kkX12_lifts rfl rfl (by decide) rfl rfl rfl (by decide) ⟨Nat.le_refl _, Nat.le_refl _⟩ (Nat.le_of_ble_eq_true rfl) (c_lifts γ hI.1 y) (fun v1 S1 I1 J1 hp => ?_)
    obtain ⟨rfl, rfl, rfl, rfl⟩ := hp
    show Rj _ _ _ _ _ _ (18, [some (.ref 100), some (.int y)], [.int (bi (lifB I y))], (SS b c), (lifN I y), J, 0, 0)
    refine r_ifc okX12_lift rfl (fun (h18 : (bi (lifB I y)) = (0 : Int32)) => ?_) (fun (h18 : ¬ (bi (lifB I y)) = (0 : Int32)) => ?_)
    · have h18s := bi_0.mp h18
      refine r_run okX12_lift 1 (cs := []) (σ' := (26, [some (.ref 100), some (.int y)], [.int 0], (SS b c), (lifN I y), J, 0, 0)) rfl trivial ?_
      refine r_iret okX12_lift rfl rfl (by decide +kernel) (Nat.le_refl _) (Nat.le_refl _) ?_
      exact ⟨by simp [liB, bi_t, bi_f, *], rfl, by simp [liN, *], rfl⟩
    · have h18s := bi_n0.mp h18
      refine r_run okX12_lift 2 (cs := []) (σ' := (26, [some (.ref 100), some (.int y)], [.int 1], (SS b c), (lifN I y), J, 0, 0)) rfl trivial ?_
      refine r_iret okX12_lift rfl rfl (by decide +kernel) (Nat.le_refl _) (Nat.le_refl _) ?_
      exact ⟨by simp [liB, bi_t, bi_f, *], rfl, by simp [liN, *], rfl⟩
def wngV (I : AI) (x w : Int32) : Int32 := if inB x 0 (I 100 45 - 1) = false then -1 else if w = 0 then I 127 (nv x) else if w = 1 then I 128 (nv x) else if w = 2 then I 129 (nv x) else if w = 3 then I 130 (nv x) else if w = 4 then I 131 (nv x) else -1
theorem wng_nat {I : AI} {x : Int32} (hI : rg 201 (I 100 45)) (h : inB x 0 (I 100 45 - 1) = true) : vp_in x 200 ∧ nv x < nv (I 100 45) := by
  obtain ⟨n, hn, e⟩ := hI
  rw [e] at h ⊢
  cases n with
  | zero =>
    obtain ⟨h1, h2⟩ := inB_t.mp h
    exact absurd (Int32.le_trans h1 h2) (by decide)
  | succ m =>
    rw [nI_pred] at h
    obtain ⟨k, hk, rfl⟩ := in_nat h rfl (by omega)
    rw [nv_nI (by omega), nv_nI (by omega)]
    exact ⟨vin (by omega) (by decide), by omega⟩
theorem c_Mwarning (γ : GE) {b c : Bool} {I : AI} {J : AJ} (hT : I 100 0 = 0) (hI : MWar I) (hL : MLand I) (x w : Int32) : Ct γ mX12_warning 1 0 0 [.ref 100, .int x, .int w] (SS b c) I J (rI (wngV I x w) (SS b c) I J) := by
  have ht := told0 hT
  refine ct_of okX12_warning (L := [some (.ref 100), some (.int x), some (.int w)]) (Nat.le_of_ble_eq_true rfl) rfl ?_
  refine r_run okX12_warning 10 (cs := []) (σ' := (14, [some (.ref 100), some (.int x), some (.int w)], [.int (((upI I 100 0 0) 100 45) - 1), .int 0, .int x, .ref 100], (SS b c), (upI I 100 0 0), J, 0, 0)) rfl trivial ?_
  simp only [ht]
  show Rj _ _ _ _ _ _ (14, [some (.ref 100), some (.int x), some (.int w)], [.int ((I 100 45) - 1), .int 0, .int x, .ref 100], (SS b c), I, J, 0, 0)
  refine r_callV okX12_warning okX12_isIn [.int x, .int 0, .int ((I 100 45) - 1)] [] 100 rfl rfl rfl kkX12_isIn rfl rfl (by decide) rfl rfl rfl (by decide) ⟨Nat.le_refl _, Nat.le_refl _⟩ (Nat.le_of_ble_eq_true rfl) (c_isIn γ x 0 ((I 100 45) - 1)) (fun v1 S1 I1 J1 hp => ?_)
  obtain ⟨rfl, rfl, rfl, rfl⟩ := hp
  show Rj _ _ _ _ _ _ (17, [some (.ref 100), some (.int x), some (.int w)], [.int (bi (inB x 0 ((I 100 45) - 1)))], (SS b c), I, J, 0, 0)
  refine r_ifc okX12_warning rfl (fun (h17 : ¬ (bi (inB x 0 ((I 100 45) - 1))) = (0 : Int32)) => ?_) (fun h170 => ?_)
  · have h17s := bi_n0.mp h17
    refine r_run okX12_warning 1 (cs := []) (σ' := (23, [some (.ref 100), some (.int x), some (.int w)], [.int w], (SS b c), I, J, 0, 0)) rfl trivial ?_
    refine r_ifc okX12_warning rfl (fun (h23 : ¬ w = (0 : Int32)) => ?_) (fun h230 => ?_)
    · refine r_run okX12_warning 2 (cs := []) (σ' := (35, [some (.ref 100), some (.int x), some (.int w)], [.int 1, .int w], (SS b c), I, J, 0, 0)) rfl trivial ?_
      refine r_icmp okX12_warning rfl (fun (h35 : ¬ w = (1 : Int32)) => ?_) (fun h350 => ?_)
      · refine r_run okX12_warning 2 (cs := []) (σ' := (47, [some (.ref 100), some (.int x), some (.int w)], [.int 2, .int w], (SS b c), I, J, 0, 0)) rfl trivial ?_
        refine r_icmp okX12_warning rfl (fun (h47 : ¬ w = (2 : Int32)) => ?_) (fun h470 => ?_)
        · refine r_run okX12_warning 2 (cs := []) (σ' := (59, [some (.ref 100), some (.int x), some (.int w)], [.int 3, .int w], (SS b c), I, J, 0, 0)) rfl trivial ?_
          refine r_icmp okX12_warning rfl (fun (h59 : ¬ w = (3 : Int32)) => ?_) (fun h590 => ?_)
          · refine r_run okX12_warning 2 (cs := []) (σ' := (71, [some (.ref 100), some (.int x), some (.int w)], [.int 4, .int w], (SS b c), I, J, 0, 0)) rfl trivial ?_
            refine r_icmp okX12_warning rfl (fun (h71 : ¬ w = (4 : Int32)) => ?_) (fun h710 => ?_)
            · refine r_run okX12_warning 1 (cs := []) (σ' := (84, [some (.ref 100), some (.int x), some (.int w)], [.int (-1)], (SS b c), I, J, 0, 0)) rfl trivial ?_
              refine r_iret okX12_warning rfl rfl rfl (Nat.le_refl _) (Nat.le_refl _) ?_
              exact ⟨by simp [wngV, nv, *], rfl, rfl, rfl⟩
            · have h71 : w = (4 : Int32) := Classical.not_not.mp h710
              refine r_run okX12_warning 5 (cs := [vp_in x 200]) (σ' := (84, [some (.ref 100), some (.int x), some (.int w)], [.int (I 131 x.toNatClampNeg)], (SS b c), I, J, 0, 0)) rfl ⟨(wng_nat hI.1 h17s).1, trivial⟩ ?_
              refine r_iret okX12_warning rfl rfl rfl (Nat.le_refl _) (Nat.le_refl _) ?_
              exact ⟨by simp [wngV, nv, *], rfl, rfl, rfl⟩
          · have h59 : w = (3 : Int32) := Classical.not_not.mp h590
            refine r_run okX12_warning 4 (cs := [vp_in x 200]) (σ' := (68, [some (.ref 100), some (.int x), some (.int w)], [.int (I 130 x.toNatClampNeg)], (SS b c), I, J, 0, 0)) rfl ⟨(wng_nat hI.1 h17s).1, trivial⟩ ?_
            refine r_iret okX12_warning rfl rfl rfl (Nat.le_refl _) (Nat.le_refl _) ?_
            exact ⟨by simp [wngV, nv, *], rfl, rfl, rfl⟩
        · have h47 : w = (2 : Int32) := Classical.not_not.mp h470
          refine r_run okX12_warning 4 (cs := [vp_in x 200]) (σ' := (56, [some (.ref 100), some (.int x), some (.int w)], [.int (I 129 x.toNatClampNeg)], (SS b c), I, J, 0, 0)) rfl ⟨(wng_nat hI.1 h17s).1, trivial⟩ ?_
          refine r_iret okX12_warning rfl rfl rfl (Nat.le_refl _) (Nat.le_refl _) ?_
          exact ⟨by simp [wngV, nv, *], rfl, rfl, rfl⟩
      · have h35 : w = (1 : Int32) := Classical.not_not.mp h350
        refine r_run okX12_warning 4 (cs := [vp_in x 200]) (σ' := (44, [some (.ref 100), some (.int x), some (.int w)], [.int (I 128 x.toNatClampNeg)], (SS b c), I, J, 0, 0)) rfl ⟨(wng_nat hI.1 h17s).1, trivial⟩ ?_
        refine r_iret okX12_warning rfl rfl rfl (Nat.le_refl _) (Nat.le_refl _) ?_
        exact ⟨by simp [wngV, nv, *], rfl, rfl, rfl⟩
    · have h23 : w = (0 : Int32) := Classical.not_not.mp h230
      refine r_run okX12_warning 4 (cs := [vp_in x 200]) (σ' := (32, [some (.ref 100), some (.int x), some (.int w)], [.int (I 127 x.toNatClampNeg)], (SS b c), I, J, 0, 0)) rfl ⟨(wng_nat hI.1 h17s).1, trivial⟩ ?_
      refine r_iret okX12_warning rfl rfl rfl (Nat.le_refl _) (Nat.le_refl _) ?_
      exact ⟨by simp [wngV, nv, *], rfl, rfl, rfl⟩
  · have h17 : (bi (inB x 0 ((I 100 45) - 1))) = (0 : Int32) := Classical.not_not.mp h170
    have h17s := bi_0.mp h17
    refine r_run okX12_warning 1 (cs := []) (σ' := (21, [some (.ref 100), some (.int x), some (.int w)], [.int (-1)], (SS b c), I, J, 0, 0)) rfl trivial ?_
    refine r_iret okX12_warning rfl rfl rfl (Nat.le_refl _) (Nat.le_refl _) ?_
    exact ⟨by simp [wngV, nv, *], rfl, rfl, rfl⟩
def lkB (I : AI) (w : Int32) (i : Nat) : Bool := if w = 3 then decide (I 128 i ≤ I 100 5) && decide (I 100 5 < I 129 i) else if w = 4 then decide (0 < I 131 i) else decide (I 131 i = 2)
def lkV (I : AI) (w : Int32) : Int32 := if w = 0 then I 100 5 else if w = 1 then I 100 13 else if w = 2 then I 100 45 else if inB w 3 5 then nI (cnt (lkB I w) (nv (I 100 45))) else -1
theorem lp_look (γ : GE) {b c : Bool} {I : AI} {J : AJ} (w : Int32) (m : Nat) (hm : m < 201) (em : I 100 45 = nI m) : ∀ (j i : Nat), i + j = m → Rj γ mX12_look 1 0 0 (rI (nI (cnt (lkB I w) (nv (I 100 45)))) (SS b c) I J) (50, [some (.ref 100), some (.int w), some (.int (nI (cnt (lkB I w) i))), some (.int (nI i)), none], [], (SS b c), I, J, 0, 0) := by
  intro j
  induction j with
  | zero =>
    intro i  hj
    refine r_run okX12_look 3 (cs := []) (σ' := (55, [some (.ref 100), some (.int w), some (.int (nI (cnt (lkB I w) i))), some (.int (nI i)), none], [.int (I 100 45), .int (nI i)], (SS b c), I, J, 0, 0)) rfl trivial ?_
    refine r_icmp okX12_look rfl (fun (h55 : (I 100 45) ≤ (nI i)) => ?_) (fun (h55 : ¬ (I 100 45) ≤ (nI i)) => ?_)
    · refine r_run okX12_look 1 (cs := []) (σ' := (152, [some (.ref 100), some (.int w), some (.int (nI (cnt (lkB I w) i))), some (.int (nI i)), none], [.int (nI (cnt (lkB I w) i))], (SS b c), I, J, 0, 0)) rfl trivial ?_
      refine r_iret okX12_look rfl rfl rfl (Nat.le_refl _) (Nat.le_refl _) ?_
      rw [show i = nv (I 100 45) by rw [em, nv_nI (by omega)]; omega]
      exact ⟨rfl, rfl, rfl, rfl⟩
    · exact absurd (by rw [em]; exact nI_le (by omega) (by omega)) h55
  | succ j ih =>
    intro i  hj
    have ci : (nI i).toNatClampNeg = i := nI_clamp (by omega)
    refine r_run okX12_look 3 (cs := []) (σ' := (55, [some (.ref 100), some (.int w), some (.int (nI (cnt (lkB I w) i))), some (.int (nI i)), none], [.int (I 100 45), .int (nI i)], (SS b c), I, J, 0, 0)) rfl trivial ?_
    refine r_icmp okX12_look rfl (fun (h55 : (I 100 45) ≤ (nI i)) => ?_) (fun (h55 : ¬ (I 100 45) ≤ (nI i)) => ?_)
    · exact absurd h55 (by rw [em]; exact nI_ge (by omega) (by omega))
    · refine r_run okX12_look 2 (cs := []) (σ' := (60, [some (.ref 100), some (.int w), some (.int (nI (cnt (lkB I w) i))), some (.int (nI i)), none], [.int 3, .int w], (SS b c), I, J, 0, 0)) rfl trivial ?_
      refine r_icmp okX12_look rfl (fun (h60 : ¬ w = (3 : Int32)) => ?_) (fun h600 => ?_)
      · refine r_run okX12_look 2 (cs := []) (σ' := (99, [some (.ref 100), some (.int w), some (.int (nI (cnt (lkB I w) i))), some (.int (nI i)), none], [.int 4, .int w], (SS b c), I, J, 0, 0)) rfl trivial ?_
        refine r_icmp okX12_look rfl (fun (h99 : ¬ w = (4 : Int32)) => ?_) (fun h990 => ?_)
        · refine r_run okX12_look 5 (cs := [vp_in (nI i) 200]) (σ' := (126, [some (.ref 100), some (.int w), some (.int (nI (cnt (lkB I w) i))), some (.int (nI i)), none], [.int 2, .int (I 131 ((nI i).toNatClampNeg))], (SS b c), I, J, 0, 0)) rfl ⟨(vin (by omega) (by decide)), trivial⟩ ?_
          simp only [ci]
          show Rj _ _ _ _ _ _ (126, [some (.ref 100), some (.int w), some (.int (nI (cnt (lkB I w) i))), some (.int (nI i)), none], [.int 2, .int (I 131 i)], (SS b c), I, J, 0, 0)
          refine r_icmp okX12_look rfl (fun (h126 : ¬ (I 131 i) = (2 : Int32)) => ?_) (fun h1260 => ?_)
          · refine r_run okX12_look 3 (cs := []) (σ' := (138, [some (.ref 100), some (.int w), some (.int (nI (cnt (lkB I w) i))), some (.int (nI i)), some (.int 0)], [.int 0], (SS b c), I, J, 0, 0)) rfl trivial ?_
            refine r_ifc okX12_look rfl (fun (h138 : (0 : Int32) = (0 : Int32)) => ?_) (fun (h138 : ¬ (0 : Int32) = (0 : Int32)) => ?_)
            · refine r_run okX12_look 2 (cs := []) (σ' := (50, [some (.ref 100), some (.int w), some (.int (nI (cnt (lkB I w) i))), some (.int (nI i + 1)), some (.int 0)], [], (SS b c), I, J, 0, 0)) rfl trivial ?_
              have hk : lkB I w i = false := by unfold lkB; simp [*]
              rw [← nI_succ]
              have e : cnt (lkB I w) (i + 1) = cnt (lkB I w) i := by rw [cnt, hk]; simp
              rw [← e]
              refine r_weak (L' := [some (.ref 100), some (.int w), some (.int (nI (cnt (lkB I w) (i + 1)))), some (.int (nI (i + 1))), none]) ⟨rfl, rfl, rfl, rfl, trivial⟩ ?_
              exact ih (i + 1) (by omega)
            · exact absurd h138 (by decide)
          · have h126 : (I 131 i) = (2 : Int32) := Classical.not_not.mp h1260
            refine r_run okX12_look 4 (cs := []) (σ' := (138, [some (.ref 100), some (.int w), some (.int (nI (cnt (lkB I w) i))), some (.int (nI i)), some (.int 1)], [.int 1], (SS b c), I, J, 0, 0)) rfl trivial ?_
            refine r_ifc okX12_look rfl (fun (h138_1 : (1 : Int32) = (0 : Int32)) => ?_) (fun (h138_1 : ¬ (1 : Int32) = (0 : Int32)) => ?_)
            · exact absurd h138_1 (by decide)
            · refine r_run okX12_look 6 (cs := []) (σ' := (50, [some (.ref 100), some (.int w), some (.int ((nI (cnt (lkB I w) i)) + 1)), some (.int (nI i + 1)), some (.int 1)], [], (SS b c), I, J, 0, 0)) rfl trivial ?_
              have hk : lkB I w i = true := by unfold lkB; simp [*]
              rw [← nI_succ]
              have e : cnt (lkB I w) (i + 1) = cnt (lkB I w) i + 1 := by rw [cnt, hk]; simp
              rw [← nI_succ, ← e]
              refine r_weak (L' := [some (.ref 100), some (.int w), some (.int (nI (cnt (lkB I w) (i + 1)))), some (.int (nI (i + 1))), none]) ⟨rfl, rfl, rfl, rfl, trivial⟩ ?_
              exact ih (i + 1) (by omega)
        · have h99 : w = (4 : Int32) := Classical.not_not.mp h990
          refine r_run okX12_look 4 (cs := [vp_in (nI i) 200]) (σ' := (108, [some (.ref 100), some (.int w), some (.int (nI (cnt (lkB I w) i))), some (.int (nI i)), none], [.int (I 131 ((nI i).toNatClampNeg))], (SS b c), I, J, 0, 0)) rfl ⟨(vin (by omega) (by decide)), trivial⟩ ?_
          simp only [ci]
          show Rj _ _ _ _ _ _ (108, [some (.ref 100), some (.int w), some (.int (nI (cnt (lkB I w) i))), some (.int (nI i)), none], [.int (I 131 i)], (SS b c), I, J, 0, 0)
          refine r_ifc okX12_look rfl (fun (h108 : (I 131 i) ≤ (0 : Int32)) => ?_) (fun (h108 : ¬ (I 131 i) ≤ (0 : Int32)) => ?_)
          · have h108a := Int32.not_lt.mpr h108
            refine r_run okX12_look 4 (cs := []) (σ' := (138, [some (.ref 100), some (.int w), some (.int (nI (cnt (lkB I w) i))), some (.int (nI i)), some (.int 0)], [.int 0], (SS b c), I, J, 0, 0)) rfl trivial ?_
            refine r_ifc okX12_look rfl (fun (h138_2 : (0 : Int32) = (0 : Int32)) => ?_) (fun (h138_2 : ¬ (0 : Int32) = (0 : Int32)) => ?_)
            · refine r_run okX12_look 2 (cs := []) (σ' := (50, [some (.ref 100), some (.int w), some (.int (nI (cnt (lkB I w) i))), some (.int (nI i + 1)), some (.int 0)], [], (SS b c), I, J, 0, 0)) rfl trivial ?_
              have hk : lkB I w i = false := by unfold lkB; simp [*]
              rw [← nI_succ]
              have e : cnt (lkB I w) (i + 1) = cnt (lkB I w) i := by rw [cnt, hk]; simp
              rw [← e]
              refine r_weak (L' := [some (.ref 100), some (.int w), some (.int (nI (cnt (lkB I w) (i + 1)))), some (.int (nI (i + 1))), none]) ⟨rfl, rfl, rfl, rfl, trivial⟩ ?_
              exact ih (i + 1) (by omega)
            · exact absurd h138_2 (by decide)
          · have h108a := Int32.not_le.mp h108
            refine r_run okX12_look 4 (cs := []) (σ' := (138, [some (.ref 100), some (.int w), some (.int (nI (cnt (lkB I w) i))), some (.int (nI i)), some (.int 1)], [.int 1], (SS b c), I, J, 0, 0)) rfl trivial ?_
            refine r_ifc okX12_look rfl (fun (h138_3 : (1 : Int32) = (0 : Int32)) => ?_) (fun (h138_3 : ¬ (1 : Int32) = (0 : Int32)) => ?_)
            · exact absurd h138_3 (by decide)
            · refine r_run okX12_look 6 (cs := []) (σ' := (50, [some (.ref 100), some (.int w), some (.int ((nI (cnt (lkB I w) i)) + 1)), some (.int (nI i + 1)), some (.int 1)], [], (SS b c), I, J, 0, 0)) rfl trivial ?_
              have hk : lkB I w i = true := by unfold lkB; simp [*]
              rw [← nI_succ]
              have e : cnt (lkB I w) (i + 1) = cnt (lkB I w) i + 1 := by rw [cnt, hk]; simp
              rw [← nI_succ, ← e]
              refine r_weak (L' := [some (.ref 100), some (.int w), some (.int (nI (cnt (lkB I w) (i + 1)))), some (.int (nI (i + 1))), none]) ⟨rfl, rfl, rfl, rfl, trivial⟩ ?_
              exact ih (i + 1) (by omega)
      · have h60 : w = (3 : Int32) := Classical.not_not.mp h600
        refine r_run okX12_look 6 (cs := [vp_in (nI i) 200]) (σ' := (73, [some (.ref 100), some (.int w), some (.int (nI (cnt (lkB I w) i))), some (.int (nI i)), none], [.int (I 100 5), .int (I 128 ((nI i).toNatClampNeg))], (SS b c), I, J, 0, 0)) rfl ⟨(vin (by omega) (by decide)), trivial⟩ ?_
        simp only [ci]
        show Rj _ _ _ _ _ _ (73, [some (.ref 100), some (.int w), some (.int (nI (cnt (lkB I w) i))), some (.int (nI i)), none], [.int (I 100 5), .int (I 128 i)], (SS b c), I, J, 0, 0)
        refine r_icmp okX12_look rfl (fun (h73 : (I 100 5) < (I 128 i)) => ?_) (fun (h73 : ¬ (I 100 5) < (I 128 i)) => ?_)
        · have h73a := Int32.not_le.mpr h73
          refine r_run okX12_look 4 (cs := []) (σ' := (138, [some (.ref 100), some (.int w), some (.int (nI (cnt (lkB I w) i))), some (.int (nI i)), some (.int 0)], [.int 0], (SS b c), I, J, 0, 0)) rfl trivial ?_
          refine r_ifc okX12_look rfl (fun (h138_4 : (0 : Int32) = (0 : Int32)) => ?_) (fun (h138_4 : ¬ (0 : Int32) = (0 : Int32)) => ?_)
          · refine r_run okX12_look 2 (cs := []) (σ' := (50, [some (.ref 100), some (.int w), some (.int (nI (cnt (lkB I w) i))), some (.int (nI i + 1)), some (.int 0)], [], (SS b c), I, J, 0, 0)) rfl trivial ?_
            have hk : lkB I w i = false := by unfold lkB; simp [*]
            rw [← nI_succ]
            have e : cnt (lkB I w) (i + 1) = cnt (lkB I w) i := by rw [cnt, hk]; simp
            rw [← e]
            refine r_weak (L' := [some (.ref 100), some (.int w), some (.int (nI (cnt (lkB I w) (i + 1)))), some (.int (nI (i + 1))), none]) ⟨rfl, rfl, rfl, rfl, trivial⟩ ?_
            exact ih (i + 1) (by omega)
          · exact absurd h138_4 (by decide)
        · have h73a := Int32.not_lt.mp h73
          refine r_run okX12_look 6 (cs := [vp_in (nI i) 200]) (σ' := (86, [some (.ref 100), some (.int w), some (.int (nI (cnt (lkB I w) i))), some (.int (nI i)), none], [.int (I 129 ((nI i).toNatClampNeg)), .int (I 100 5)], (SS b c), I, J, 0, 0)) rfl ⟨(vin (by omega) (by decide)), trivial⟩ ?_
          simp only [ci]
          show Rj _ _ _ _ _ _ (86, [some (.ref 100), some (.int w), some (.int (nI (cnt (lkB I w) i))), some (.int (nI i)), none], [.int (I 129 i), .int (I 100 5)], (SS b c), I, J, 0, 0)
          refine r_icmp okX12_look rfl (fun (h86 : (I 129 i) ≤ (I 100 5)) => ?_) (fun (h86 : ¬ (I 129 i) ≤ (I 100 5)) => ?_)
          · have h86a := Int32.not_lt.mpr h86
            refine r_run okX12_look 4 (cs := []) (σ' := (138, [some (.ref 100), some (.int w), some (.int (nI (cnt (lkB I w) i))), some (.int (nI i)), some (.int 0)], [.int 0], (SS b c), I, J, 0, 0)) rfl trivial ?_
            refine r_ifc okX12_look rfl (fun (h138_5 : (0 : Int32) = (0 : Int32)) => ?_) (fun (h138_5 : ¬ (0 : Int32) = (0 : Int32)) => ?_)
            · refine r_run okX12_look 2 (cs := []) (σ' := (50, [some (.ref 100), some (.int w), some (.int (nI (cnt (lkB I w) i))), some (.int (nI i + 1)), some (.int 0)], [], (SS b c), I, J, 0, 0)) rfl trivial ?_
              have hk : lkB I w i = false := by unfold lkB; simp [*]
              rw [← nI_succ]
              have e : cnt (lkB I w) (i + 1) = cnt (lkB I w) i := by rw [cnt, hk]; simp
              rw [← e]
              refine r_weak (L' := [some (.ref 100), some (.int w), some (.int (nI (cnt (lkB I w) (i + 1)))), some (.int (nI (i + 1))), none]) ⟨rfl, rfl, rfl, rfl, trivial⟩ ?_
              exact ih (i + 1) (by omega)
            · exact absurd h138_5 (by decide)
          · have h86a := Int32.not_le.mp h86
            refine r_run okX12_look 4 (cs := []) (σ' := (138, [some (.ref 100), some (.int w), some (.int (nI (cnt (lkB I w) i))), some (.int (nI i)), some (.int 1)], [.int 1], (SS b c), I, J, 0, 0)) rfl trivial ?_
            refine r_ifc okX12_look rfl (fun (h138_6 : (1 : Int32) = (0 : Int32)) => ?_) (fun (h138_6 : ¬ (1 : Int32) = (0 : Int32)) => ?_)
            · exact absurd h138_6 (by decide)
            · refine r_run okX12_look 6 (cs := []) (σ' := (50, [some (.ref 100), some (.int w), some (.int ((nI (cnt (lkB I w) i)) + 1)), some (.int (nI i + 1)), some (.int 1)], [], (SS b c), I, J, 0, 0)) rfl trivial ?_
              have hk : lkB I w i = true := by unfold lkB; simp [*]
              rw [← nI_succ]
              have e : cnt (lkB I w) (i + 1) = cnt (lkB I w) i + 1 := by rw [cnt, hk]; simp
              rw [← nI_succ, ← e]
              refine r_weak (L' := [some (.ref 100), some (.int w), some (.int (nI (cnt (lkB I w) (i + 1)))), some (.int (nI (i + 1))), none]) ⟨rfl, rfl, rfl, rfl, trivial⟩ ?_
              exact ih (i + 1) (by omega)
theorem c_Mlook (γ : GE) {b c : Bool} {I : AI} {J : AJ} (hT : I 100 0 = 0) (hI : MWar I) (hL : MLand I) (w : Int32) : Ct γ mX12_look 1 0 0 [.ref 100, .int w] (SS b c) I J (rI (lkV I w) (SS b c) I J) := by
  have ht := told0 hT
  refine ct_of okX12_look (L := [some (.ref 100), some (.int w), none, none, none]) (Nat.le_of_ble_eq_true rfl) rfl ?_
  refine r_run okX12_look 4 (cs := []) (σ' := (6, [some (.ref 100), some (.int w), none, none, none], [.int w], (SS b c), (upI I 100 0 0), J, 0, 0)) rfl trivial ?_
  simp only [ht]
  show Rj _ _ _ _ _ _ (6, [some (.ref 100), some (.int w), none, none, none], [.int w], (SS b c), I, J, 0, 0)
  refine r_ifc okX12_look rfl (fun (h6 : ¬ w = (0 : Int32)) => ?_) (fun h60 => ?_)
  · refine r_run okX12_look 2 (cs := []) (σ' := (16, [some (.ref 100), some (.int w), none, none, none], [.int 1, .int w], (SS b c), I, J, 0, 0)) rfl trivial ?_
    refine r_icmp okX12_look rfl (fun (h16 : ¬ w = (1 : Int32)) => ?_) (fun h160 => ?_)
    · refine r_run okX12_look 2 (cs := []) (σ' := (26, [some (.ref 100), some (.int w), none, none, none], [.int 2, .int w], (SS b c), I, J, 0, 0)) rfl trivial ?_
      refine r_icmp okX12_look rfl (fun (h26 : ¬ w = (2 : Int32)) => ?_) (fun h260 => ?_)
      · refine r_run okX12_look 4 (cs := []) (σ' := (38, [some (.ref 100), some (.int w), none, none, none], [.int 5, .int 3, .int w, .ref 100], (SS b c), I, J, 0, 0)) rfl trivial ?_
        refine r_callV okX12_look okX12_isIn [.int w, .int 3, .int 5] [] 100 rfl rfl rfl kkX12_isIn rfl rfl (by decide) rfl rfl rfl (by decide) ⟨Nat.le_refl _, Nat.le_refl _⟩ (Nat.le_of_ble_eq_true rfl) (c_isIn γ w 3 5) (fun v1 S1 I1 J1 hp => ?_)
        obtain ⟨rfl, rfl, rfl, rfl⟩ := hp
        show Rj _ _ _ _ _ _ (41, [some (.ref 100), some (.int w), none, none, none], [.int (bi (inB w 3 5))], (SS b c), I, J, 0, 0)
        refine r_ifc okX12_look rfl (fun (h41 : ¬ (bi (inB w 3 5)) = (0 : Int32)) => ?_) (fun h410 => ?_)
        · have h41s := bi_n0.mp h41
          refine r_run okX12_look 4 (cs := []) (σ' := (50, [some (.ref 100), some (.int w), some (.int 0), some (.int 0), none], [], (SS b c), I, J, 0, 0)) rfl trivial ?_
          obtain ⟨m, hm, em⟩ := hI.1
          have h := lp_look γ (b := b) (c := c) (I := I) (J := J) w m hm em m 0 (by omega)
          rw [show cnt (lkB I w) 0 = 0 from rfl, nI_0] at h
          rw [show lkV I w = nI (cnt (lkB I w) (nv (I 100 45))) by simp [lkV, *]]
          exact h
        · have h41 : (bi (inB w 3 5)) = (0 : Int32) := Classical.not_not.mp h410
          have h41s := bi_0.mp h41
          refine r_run okX12_look 1 (cs := []) (σ' := (45, [some (.ref 100), some (.int w), none, none, none], [.int (-1)], (SS b c), I, J, 0, 0)) rfl trivial ?_
          refine r_iret okX12_look rfl rfl rfl (Nat.le_refl _) (Nat.le_refl _) ?_
          exact ⟨by simp [lkV, *], rfl, rfl, rfl⟩
      · have h26 : w = (2 : Int32) := Classical.not_not.mp h260
        refine r_run okX12_look 2 (cs := []) (σ' := (33, [some (.ref 100), some (.int w), none, none, none], [.int (I 100 45)], (SS b c), I, J, 0, 0)) rfl trivial ?_
        refine r_iret okX12_look rfl rfl rfl (Nat.le_refl _) (Nat.le_refl _) ?_
        exact ⟨by simp [lkV, *], rfl, rfl, rfl⟩
    · have h16 : w = (1 : Int32) := Classical.not_not.mp h160
      refine r_run okX12_look 2 (cs := []) (σ' := (23, [some (.ref 100), some (.int w), none, none, none], [.int (I 100 13)], (SS b c), I, J, 0, 0)) rfl trivial ?_
      refine r_iret okX12_look rfl rfl rfl (Nat.le_refl _) (Nat.le_refl _) ?_
      exact ⟨by simp [lkV, *], rfl, rfl, rfl⟩
  · have h6 : w = (0 : Int32) := Classical.not_not.mp h60
    refine r_run okX12_look 2 (cs := []) (σ' := (13, [some (.ref 100), some (.int w), none, none, none], [.int (I 100 5)], (SS b c), I, J, 0, 0)) rfl trivial ?_
    refine r_iret okX12_look rfl rfl rfl (Nat.le_refl _) (Nat.le_refl _) ?_
    exact ⟨by simp [lkV, *], rfl, rfl, rfl⟩
def truB (I : AI) (t x : Int32) : Bool := inB t 0 (I 100 5) && inB x (-1) 95
def truN (I : AI) (t x : Int32) : AI := if truB I t x then upI I 139 (nv t) (x + 1) else I
theorem past_vin {I : AI} {t : Int32} (h5 : rg 720 (I 100 5)) (h : inB t 0 (I 100 5) = true) : vp_in t 720 ∧ nv t ≤ nv (I 100 5) ∧ t = nI (nv t) := by
  obtain ⟨n, hn, e⟩ := h5
  obtain ⟨k, hk, rfl⟩ := in_nat h e (by omega)
  rw [e, nv_nI (by omega), nv_nI (by omega)]
  exact ⟨vin (by omega) (by decide), hk, rfl⟩
theorem c_Mtruth (γ : GE) {b c : Bool} {I : AI} {J : AJ} (hT : I 100 0 = 0) (hI : MWar I) (hL : MLand I) (t x : Int32) : Ct γ mX12_truth 1 0 0 [.ref 100, .int t, .int x] (SS b c) I J (rI (bi (truB I t x)) (SS b c) (truN I t x) J) := by
  have ht := told0 hT
  refine ct_of okX12_truth (L := [some (.ref 100), some (.int t), some (.int x)]) (Nat.le_of_ble_eq_true rfl) rfl ?_
  refine r_run okX12_truth 8 (cs := []) (σ' := (12, [some (.ref 100), some (.int t), some (.int x)], [.int ((upI I 100 0 0) 100 5), .int 0, .int t, .ref 100], (SS b c), (upI I 100 0 0), J, 0, 0)) rfl trivial ?_
  simp only [ht]
  show Rj _ _ _ _ _ _ (12, [some (.ref 100), some (.int t), some (.int x)], [.int (I 100 5), .int 0, .int t, .ref 100], (SS b c), I, J, 0, 0)
  refine r_callV okX12_truth okX12_isIn [.int t, .int 0, .int (I 100 5)] [] 100 rfl rfl rfl kkX12_isIn rfl rfl (by decide) rfl rfl rfl (by decide) ⟨Nat.le_refl _, Nat.le_refl _⟩ (Nat.le_of_ble_eq_true rfl) (c_isIn γ t 0 (I 100 5)) (fun v1 S1 I1 J1 hp => ?_)
  obtain ⟨rfl, rfl, rfl, rfl⟩ := hp
  show Rj _ _ _ _ _ _ (15, [some (.ref 100), some (.int t), some (.int x)], [.int (bi (inB t 0 (I 100 5)))], (SS b c), I, J, 0, 0)
  refine r_ifc okX12_truth rfl (fun (h15 : (bi (inB t 0 (I 100 5))) = (0 : Int32)) => ?_) (fun (h15 : ¬ (bi (inB t 0 (I 100 5))) = (0 : Int32)) => ?_)
  · have h15s := bi_0.mp h15
    refine r_run okX12_truth 1 (cs := []) (σ' := (30, [some (.ref 100), some (.int t), some (.int x)], [.int 0], (SS b c), I, J, 0, 0)) rfl trivial ?_
    refine r_iret okX12_truth rfl rfl (by decide +kernel) (Nat.le_refl _) (Nat.le_refl _) ?_
    exact ⟨by simp [truB, bi_t, bi_f, *], rfl, by simp [truN, truB, nv, *], rfl⟩
  · have h15s := bi_n0.mp h15
    refine r_run okX12_truth 4 (cs := []) (σ' := (23, [some (.ref 100), some (.int t), some (.int x)], [.int 95, .int (-1), .int x, .ref 100], (SS b c), I, J, 0, 0)) rfl trivial ?_
    refine r_callV okX12_truth okX12_isIn [.int x, .int (-1), .int 95] [] 100 rfl rfl rfl kkX12_isIn rfl rfl (by decide) rfl rfl rfl (by decide) ⟨Nat.le_refl _, Nat.le_refl _⟩ (Nat.le_of_ble_eq_true rfl) (c_isIn γ x (-1) 95) (fun v1 S1 I1 J1 hp => ?_)
    obtain ⟨rfl, rfl, rfl, rfl⟩ := hp
    show Rj _ _ _ _ _ _ (26, [some (.ref 100), some (.int t), some (.int x)], [.int (bi (inB x (-1) 95))], (SS b c), I, J, 0, 0)
    refine r_ifc okX12_truth rfl (fun (h26 : ¬ (bi (inB x (-1) 95)) = (0 : Int32)) => ?_) (fun h260 => ?_)
    · have h26s := bi_n0.mp h26
      refine r_run okX12_truth 8 (cs := [vp_in t 720]) (σ' := (41, [some (.ref 100), some (.int t), some (.int x)], [.int 1], (SS b c), (upI I 139 t.toNatClampNeg (x + 1)), J, 0, 0)) rfl ⟨(past_vin hI.2.1 h15s).1, trivial⟩ ?_
      refine r_iret okX12_truth rfl rfl (by decide +kernel) (Nat.le_refl _) (Nat.le_refl _) ?_
      exact ⟨by simp [truB, bi_t, bi_f, *], rfl, by simp [truN, truB, nv, *], rfl⟩
    · have h26 : (bi (inB x (-1) 95)) = (0 : Int32) := Classical.not_not.mp h260
      have h26s := bi_0.mp h26
      refine r_run okX12_truth 1 (cs := []) (σ' := (30, [some (.ref 100), some (.int t), some (.int x)], [.int 0], (SS b c), I, J, 0, 0)) rfl trivial ?_
      refine r_iret okX12_truth rfl rfl (by decide +kernel) (Nat.le_refl _) (Nat.le_refl _) ?_
      exact ⟨by simp [truB, bi_t, bi_f, *], rfl, by simp [truN, truB, nv, *], rfl⟩
/-- a siren kept with warning w, of the cells below n, within one of x -/
def hsN (I : AI) (w x n : Nat) : Bool := (List.range n).any fun y => decide (¬ I 132 (96 * w + y) = 0) && decide (farN x y ≤ 1)
theorem hs_more {I : AI} {w x n m : Nat} (h : hsN I w x n = true) (hm : n ≤ m) : hsN I w x m = true := by
  unfold hsN at *
  rw [List.any_eq_true] at *
  obtain ⟨y, hy, h⟩ := h
  exact ⟨y, List.mem_range.mpr (by have := List.mem_range.mp hy; omega), h⟩
theorem lp_hs (γ : GE) {b c : Bool} {I : AI} {J : AJ} (w x : Nat) (hw : w < 200) (hx : x < 96) : ∀ (j q : Nat), q + j = 96 → hsN I w x q = false → Rj γ mX12_hadSiren 1 0 0 (rI (bi (hsN I w x 96)) (SS b c) I J) (2, [some (.ref 100), some (.int (nI w)), some (.int (nI x)), some (.int (nI q))], [], (SS b c), I, J, 0, 0) := by
  intro j
  induction j with
  | zero =>
    intro q hj hn
    refine r_run okX12_hadSiren 2 (cs := []) (σ' := (5, [some (.ref 100), some (.int (nI w)), some (.int (nI x)), some (.int (nI q))], [.int 96, .int (nI q)], (SS b c), I, J, 0, 0)) rfl trivial ?_
    refine r_icmp okX12_hadSiren rfl (fun (h5 : (96 : Int32) ≤ (nI q)) => ?_) (fun (h5 : ¬ (96 : Int32) ≤ (nI q)) => ?_)
    · refine r_run okX12_hadSiren 1 (cs := []) (σ' := (41, [some (.ref 100), some (.int (nI w)), some (.int (nI x)), some (.int (nI q))], [.int 0], (SS b c), I, J, 0, 0)) rfl trivial ?_
      refine r_iret okX12_hadSiren rfl rfl (by decide +kernel) (Nat.le_refl _) (Nat.le_refl _) ?_
      rw [show q = 96 by omega] at hn
      exact ⟨by rw [hn]; rfl, rfl, rfl, rfl⟩
    · exact absurd (nI_le (a := 96) (by omega) (by omega)) h5
  | succ j ih =>
    intro q hj hn
    have e1 : (96 : Int32) * nI w + nI q = nI (96 * w + q) := mul_add_nI 96 w q
    have cq : ((96 : Int32) * nI w + nI q).toNatClampNeg = 96 * w + q := by rw [e1]; exact nI_clamp (by omega)
    have vq : vp_in ((96 : Int32) * nI w + nI q) 19200 := by rw [e1]; exact vin (by omega) (by decide)
    refine r_run okX12_hadSiren 2 (cs := []) (σ' := (5, [some (.ref 100), some (.int (nI w)), some (.int (nI x)), some (.int (nI q))], [.int 96, .int (nI q)], (SS b c), I, J, 0, 0)) rfl trivial ?_
    refine r_icmp okX12_hadSiren rfl (fun (h5 : (96 : Int32) ≤ (nI q)) => ?_) (fun (h5 : ¬ (96 : Int32) ≤ (nI q)) => ?_)
    · exact absurd h5 (nI_ge (b := 96) (by omega) (by decide))
    · refine r_run okX12_hadSiren 8 (cs := [vp_in ((96 * (nI w)) + (nI q)) 19200]) (σ' := (19, [some (.ref 100), some (.int (nI w)), some (.int (nI x)), some (.int (nI q))], [.int (I 132 (((96 * (nI w)) + (nI q)).toNatClampNeg))], (SS b c), I, J, 0, 0)) rfl ⟨vq, trivial⟩ ?_
      simp only [cq]
      show Rj _ _ _ _ _ _ (19, [some (.ref 100), some (.int (nI w)), some (.int (nI x)), some (.int (nI q))], [.int (I 132 (96 * w + q))], (SS b c), I, J, 0, 0)
      refine r_ifc okX12_hadSiren rfl (fun (h19 : (I 132 (96 * w + q)) = (0 : Int32)) => ?_) (fun (h19 : ¬ (I 132 (96 * w + q)) = (0 : Int32)) => ?_)
      · refine r_run okX12_hadSiren 2 (cs := []) (σ' := (2, [some (.ref 100), some (.int (nI w)), some (.int (nI x)), some (.int (nI q + 1))], [], (SS b c), I, J, 0, 0)) rfl trivial ?_
        have hz : hsN I w x (q + 1) = false := by unfold hsN at hn ⊢; rw [any_s, hn]; simp [*]
        rw [← nI_succ]
        exact ih (q + 1) (by omega) hz
      · refine r_run okX12_hadSiren 3 (cs := []) (σ' := (25, [some (.ref 100), some (.int (nI w)), some (.int (nI x)), some (.int (nI q))], [.int (nI q), .int (nI x), .ref 100], (SS b c), I, J, 0, 0)) rfl trivial ?_
        refine r_callV okX12_hadSiren okX12_far [.int (nI x), .int (nI q)] [] 100 rfl rfl rfl kkX12_far rfl rfl (by decide) rfl rfl rfl (by decide) ⟨Nat.le_refl _, Nat.le_refl _⟩ (Nat.le_of_ble_eq_true rfl) (c_far γ hx (by omega) rfl rfl) (fun v1 S1 I1 J1 hp => ?_)
        obtain ⟨rfl, rfl, rfl, rfl⟩ := hp
        show Rj _ _ _ _ _ _ (28, [some (.ref 100), some (.int (nI w)), some (.int (nI x)), some (.int (nI q))], [.int (nI (farN x q))], (SS b c), I, J, 0, 0)
        refine r_run okX12_hadSiren 1 (cs := []) (σ' := (29, [some (.ref 100), some (.int (nI w)), some (.int (nI x)), some (.int (nI q))], [.int 1, .int (nI (farN x q))], (SS b c), I, J, 0, 0)) rfl trivial ?_
        refine r_icmp okX12_hadSiren rfl (fun (h29 : (1 : Int32) < (nI (farN x q))) => ?_) (fun (h29 : ¬ (1 : Int32) < (nI (farN x q))) => ?_)
        · have hN : ¬ farN x q ≤ 1 := fun z => absurd h29 (nI_nlt (a := 1) z (by decide))
          refine r_run okX12_hadSiren 2 (cs := []) (σ' := (2, [some (.ref 100), some (.int (nI w)), some (.int (nI x)), some (.int (nI q + 1))], [], (SS b c), I, J, 0, 0)) rfl trivial ?_
          have hz : hsN I w x (q + 1) = false := by unfold hsN at hn ⊢; rw [any_s, hn]; simp [*]
          rw [← nI_succ]
          exact ih (q + 1) (by omega) hz
        · have hN : farN x q ≤ 1 := Nat.le_of_not_lt fun z => h29 (nI_lt (a := 1) z (by unfold farN dst; omega))
          refine r_run okX12_hadSiren 1 (cs := []) (σ' := (33, [some (.ref 100), some (.int (nI w)), some (.int (nI x)), some (.int (nI q))], [.int 1], (SS b c), I, J, 0, 0)) rfl trivial ?_
          refine r_iret okX12_hadSiren rfl rfl (by decide +kernel) (Nat.le_refl _) (Nat.le_refl _) ?_
          have hz : hsN I w x (q + 1) = true := by unfold hsN; rw [any_s]; simp [*]
          exact ⟨by rw [hs_more hz (by omega)]; rfl, rfl, rfl, rfl⟩
theorem c_hadSiren (γ : GE) {b c : Bool} {I : AI} {J : AJ} (w x : Nat) (hw : w < 200) (hx : x < 96) : Ct γ mX12_hadSiren 1 0 0 [.ref 100, .int (nI w), .int (nI x)] (SS b c) I J (rI (bi (hsN I w x 96)) (SS b c) I J) := by
  refine ct_of okX12_hadSiren (L := [some (.ref 100), some (.int (nI w)), some (.int (nI x)), none]) (Nat.le_of_ble_eq_true rfl) rfl ?_
  refine r_run okX12_hadSiren 2 (cs := []) (σ' := (2, [some (.ref 100), some (.int (nI w)), some (.int (nI x)), some (.int 0)], [], (SS b c), I, J, 0, 0)) rfl trivial ?_
  have h := lp_hs γ (b := b) (c := c) (I := I) (J := J) w x hw hx 96 0 rfl rfl
  rw [nI_0] at h
  exact h
def safV (I : AI) (t : Int32) (x : Nat) : Int32 := match thr I (I 101 x) t with
  | none => 0
  | some w => if t < I 128 w + (if hsN I w x 96 then 0 else 5) + I 103 x then 0 else I 102 x * I 130 w / 100
theorem c_safeAt0 (γ : GE) {b c : Bool} {I : AI} {J : AJ} (hI : MWar I) (t : Int32) (x : Nat) (hx : x < 96) (he : thr I (I 101 x) t = none) : Ct γ mX12_safeAt 2 0 0 [.ref 100, .int t, .int (nI x)] (SS b c) I J (rI (safV I t x) (SS b c) I J) := by
  have cx : (nI x).toNatClampNeg = x := nI_clamp (by omega)
  refine ct_of okX12_safeAt (L := [some (.ref 100), some (.int t), some (.int (nI x)), none, none]) (Nat.le_of_ble_eq_true rfl) rfl ?_
  refine r_run okX12_safeAt 6 (cs := [vp_in (nI x) 96]) (σ' := (8, [some (.ref 100), some (.int t), some (.int (nI x)), none, none], [.int t, .int (I 101 ((nI x).toNatClampNeg)), .ref 100], (SS b c), I, J, 0, 0)) rfl ⟨(vin hx (by decide)), trivial⟩ ?_
  simp only [cx]
  show Rj _ _ _ _ _ _ (8, [some (.ref 100), some (.int t), some (.int (nI x)), none, none], [.int t, .int (I 101 x), .ref 100], (SS b c), I, J, 0, 0)
  refine r_callV okX12_safeAt okX12_thereAt [.int (I 101 x), .int t] [] 100 rfl rfl rfl kkX12_thereAt rfl rfl (by decide) rfl rfl rfl (by decide) ⟨Nat.le_refl _, Nat.le_refl _⟩ (Nat.le_of_ble_eq_true rfl) (c_thereAt1 γ hI.1 (by rw [he]; try rfl)) (fun v1 S1 I1 J1 hp => ?_)
  obtain ⟨rfl, rfl, rfl, rfl⟩ := hp
  show Rj _ _ _ _ _ _ (11, [some (.ref 100), some (.int t), some (.int (nI x)), none, none], [.int (-1)], (SS b c), I, J, 0, 0)
  refine r_run okX12_safeAt 3 (cs := []) (σ' := (14, [some (.ref 100), some (.int t), some (.int (nI x)), some (.int (-1)), none], [.int (-1), .int (-1)], (SS b c), I, J, 0, 0)) rfl trivial ?_
  refine r_icmp okX12_safeAt rfl (fun (h14 : ¬ ((-1) : Int32) = ((-1) : Int32)) => ?_) (fun h140 => ?_)
  · exact absurd h14 (by decide)
  · have h14 : ((-1) : Int32) = ((-1) : Int32) := Classical.not_not.mp h140
    refine r_run okX12_safeAt 1 (cs := []) (σ' := (18, [some (.ref 100), some (.int t), some (.int (nI x)), some (.int (-1)), none], [.int 0], (SS b c), I, J, 0, 0)) rfl trivial ?_
    refine r_iret okX12_safeAt rfl rfl rfl (Nat.le_refl _) (Nat.le_refl _) ?_
    exact ⟨by simp [safV, he], rfl, rfl, rfl⟩
theorem c_safeAt1 (γ : GE) {b c : Bool} {I : AI} {J : AJ} (hI : MWar I) (t : Int32) (x : Nat) (hx : x < 96) (w : Nat) (he : thr I (I 101 x) t = some w) : Ct γ mX12_safeAt 2 0 0 [.ref 100, .int t, .int (nI x)] (SS b c) I J (rI (safV I t x) (SS b c) I J) := by
  have hw := thr_lt hI.1 he
  have cx : (nI x).toNatClampNeg = x := nI_clamp (by omega)
  have cw : (nI w).toNatClampNeg = w := nI_clamp (by omega)
  refine ct_of okX12_safeAt (L := [some (.ref 100), some (.int t), some (.int (nI x)), none, none]) (Nat.le_of_ble_eq_true rfl) rfl ?_
  refine r_run okX12_safeAt 6 (cs := [vp_in (nI x) 96]) (σ' := (8, [some (.ref 100), some (.int t), some (.int (nI x)), none, none], [.int t, .int (I 101 ((nI x).toNatClampNeg)), .ref 100], (SS b c), I, J, 0, 0)) rfl ⟨(vin hx (by decide)), trivial⟩ ?_
  simp only [cx]
  show Rj _ _ _ _ _ _ (8, [some (.ref 100), some (.int t), some (.int (nI x)), none, none], [.int t, .int (I 101 x), .ref 100], (SS b c), I, J, 0, 0)
  refine r_callV okX12_safeAt okX12_thereAt [.int (I 101 x), .int t] [] 100 rfl rfl rfl kkX12_thereAt rfl rfl (by decide) rfl rfl rfl (by decide) ⟨Nat.le_refl _, Nat.le_refl _⟩ (Nat.le_of_ble_eq_true rfl) (c_thereAt1 γ hI.1 (by rw [he]; try rfl)) (fun v1 S1 I1 J1 hp => ?_)
  obtain ⟨rfl, rfl, rfl, rfl⟩ := hp
  show Rj _ _ _ _ _ _ (11, [some (.ref 100), some (.int t), some (.int (nI x)), none, none], [.int (nI w)], (SS b c), I, J, 0, 0)
  refine r_run okX12_safeAt 3 (cs := []) (σ' := (14, [some (.ref 100), some (.int t), some (.int (nI x)), some (.int (nI w)), none], [.int (-1), .int (nI w)], (SS b c), I, J, 0, 0)) rfl trivial ?_
  refine r_icmp okX12_safeAt rfl (fun (h14 : ¬ (nI w) = ((-1) : Int32)) => ?_) (fun h140 => ?_)
  · refine r_run okX12_safeAt 7 (cs := [vp_in (nI w) 200]) (σ' := (28, [some (.ref 100), some (.int t), some (.int (nI x)), some (.int (nI w)), none], [.int (nI x), .int (nI w), .ref 100, .int (I 128 ((nI w).toNatClampNeg))], (SS b c), I, J, 0, 0)) rfl ⟨(vin hw.2 (by decide)), trivial⟩ ?_
    simp only [cw]
    show Rj _ _ _ _ _ _ (28, [some (.ref 100), some (.int t), some (.int (nI x)), some (.int (nI w)), none], [.int (nI x), .int (nI w), .ref 100, .int (I 128 w)], (SS b c), I, J, 0, 0)
    refine r_callV okX12_safeAt okX12_hadSiren [.int (nI w), .int (nI x)] [.int (I 128 w)] 100 rfl rfl rfl kkX12_hadSiren rfl rfl (by decide) rfl rfl rfl (by decide) ⟨Nat.le_refl _, Nat.le_refl _⟩ (Nat.le_of_ble_eq_true rfl) (c_hadSiren γ w x hw.2 hx) (fun v1 S1 I1 J1 hp => ?_)
    obtain ⟨rfl, rfl, rfl, rfl⟩ := hp
    show Rj _ _ _ _ _ _ (31, [some (.ref 100), some (.int t), some (.int (nI x)), some (.int (nI w)), none], [.int (bi (hsN I w x 96)), .int (I 128 w)], (SS b c), I, J, 0, 0)
    refine r_ifc okX12_safeAt rfl (fun (h31 : (bi (hsN I w x 96)) = (0 : Int32)) => ?_) (fun (h31 : ¬ (bi (hsN I w x 96)) = (0 : Int32)) => ?_)
    · have h31s := bi_0.mp h31
      refine r_run okX12_safeAt 10 (cs := [vp_in (nI x) 96]) (σ' := (52, [some (.ref 100), some (.int t), some (.int (nI x)), some (.int (nI w)), some (.int ((I 128 w) + 5))], [.int (((I 128 w) + 5) + (I 103 ((nI x).toNatClampNeg))), .int t], (SS b c), I, J, 0, 0)) rfl ⟨(vin hx (by decide)), trivial⟩ ?_
      simp only [cx]
      show Rj _ _ _ _ _ _ (52, [some (.ref 100), some (.int t), some (.int (nI x)), some (.int (nI w)), some (.int ((I 128 w) + 5))], [.int (((I 128 w) + 5) + (I 103 x)), .int t], (SS b c), I, J, 0, 0)
      refine r_icmp okX12_safeAt rfl (fun (h52 : t < (((I 128 w) + 5) + (I 103 x))) => ?_) (fun (h52 : ¬ t < (((I 128 w) + 5) + (I 103 x))) => ?_)
      · refine r_run okX12_safeAt 1 (cs := []) (σ' := (75, [some (.ref 100), some (.int t), some (.int (nI x)), some (.int (nI w)), some (.int ((I 128 w) + 5))], [.int 0], (SS b c), I, J, 0, 0)) rfl trivial ?_
        refine r_iret okX12_safeAt rfl rfl rfl (Nat.le_refl _) (Nat.le_refl _) ?_
        refine ⟨congrArg (fun z => some (Value.int z)) ?_, rfl, rfl, rfl⟩
        unfold safV
        rw [he]
        show (if t < I 128 w + (if hsN I w x 96 = true then 0 else 5) + I 103 x then (0 : Int32) else I 102 x * I 130 w / 100) = _
        rw [h31s]
        exact if_pos h52
      · refine r_run okX12_safeAt 12 (cs := [vp_in (nI x) 96, vp_in (nI w) 200, ¬ (100 : Int32) = 0]) (σ' := (75, [some (.ref 100), some (.int t), some (.int (nI x)), some (.int (nI w)), some (.int ((I 128 w) + 5))], [.int (((I 102 ((nI x).toNatClampNeg)) * (I 130 ((nI w).toNatClampNeg))) / 100)], (SS b c), I, J, 0, 0)) rfl ⟨(vin hx (by decide)), (vin hw.2 (by decide)), (by decide), trivial⟩ ?_
        simp only [cx, cw]
        show Rj _ _ _ _ _ _ (75, [some (.ref 100), some (.int t), some (.int (nI x)), some (.int (nI w)), some (.int ((I 128 w) + 5))], [.int (((I 102 x) * (I 130 w)) / 100)], (SS b c), I, J, 0, 0)
        refine r_iret okX12_safeAt rfl rfl rfl (Nat.le_refl _) (Nat.le_refl _) ?_
        refine ⟨congrArg (fun z => some (Value.int z)) ?_, rfl, rfl, rfl⟩
        unfold safV
        rw [he]
        show (if t < I 128 w + (if hsN I w x 96 = true then 0 else 5) + I 103 x then (0 : Int32) else I 102 x * I 130 w / 100) = _
        rw [h31s]
        exact if_neg h52
    · have h31s := bi_n0.mp h31
      refine r_run okX12_safeAt 11 (cs := [vp_in (nI x) 96]) (σ' := (52, [some (.ref 100), some (.int t), some (.int (nI x)), some (.int (nI w)), some (.int ((I 128 w) + 0))], [.int (((I 128 w) + 0) + (I 103 ((nI x).toNatClampNeg))), .int t], (SS b c), I, J, 0, 0)) rfl ⟨(vin hx (by decide)), trivial⟩ ?_
      simp only [cx]
      show Rj _ _ _ _ _ _ (52, [some (.ref 100), some (.int t), some (.int (nI x)), some (.int (nI w)), some (.int ((I 128 w) + 0))], [.int (((I 128 w) + 0) + (I 103 x)), .int t], (SS b c), I, J, 0, 0)
      refine r_icmp okX12_safeAt rfl (fun (h52_1 : t < (((I 128 w) + 0) + (I 103 x))) => ?_) (fun (h52_1 : ¬ t < (((I 128 w) + 0) + (I 103 x))) => ?_)
      · refine r_run okX12_safeAt 1 (cs := []) (σ' := (75, [some (.ref 100), some (.int t), some (.int (nI x)), some (.int (nI w)), some (.int ((I 128 w) + 0))], [.int 0], (SS b c), I, J, 0, 0)) rfl trivial ?_
        refine r_iret okX12_safeAt rfl rfl rfl (Nat.le_refl _) (Nat.le_refl _) ?_
        refine ⟨congrArg (fun z => some (Value.int z)) ?_, rfl, rfl, rfl⟩
        unfold safV
        rw [he]
        show (if t < I 128 w + (if hsN I w x 96 = true then 0 else 5) + I 103 x then (0 : Int32) else I 102 x * I 130 w / 100) = _
        rw [h31s]
        exact if_pos h52_1
      · refine r_run okX12_safeAt 12 (cs := [vp_in (nI x) 96, vp_in (nI w) 200, ¬ (100 : Int32) = 0]) (σ' := (75, [some (.ref 100), some (.int t), some (.int (nI x)), some (.int (nI w)), some (.int ((I 128 w) + 0))], [.int (((I 102 ((nI x).toNatClampNeg)) * (I 130 ((nI w).toNatClampNeg))) / 100)], (SS b c), I, J, 0, 0)) rfl ⟨(vin hx (by decide)), (vin hw.2 (by decide)), (by decide), trivial⟩ ?_
        simp only [cx, cw]
        show Rj _ _ _ _ _ _ (75, [some (.ref 100), some (.int t), some (.int (nI x)), some (.int (nI w)), some (.int ((I 128 w) + 0))], [.int (((I 102 x) * (I 130 w)) / 100)], (SS b c), I, J, 0, 0)
        refine r_iret okX12_safeAt rfl rfl rfl (Nat.le_refl _) (Nat.le_refl _) ?_
        refine ⟨congrArg (fun z => some (Value.int z)) ?_, rfl, rfl, rfl⟩
        unfold safV
        rw [he]
        show (if t < I 128 w + (if hsN I w x 96 = true then 0 else 5) + I 103 x then (0 : Int32) else I 102 x * I 130 w / 100) = _
        rw [h31s]
        exact if_neg h52_1
  · have h14 : (nI w) = ((-1) : Int32) := Classical.not_not.mp h140
    exact absurd h14 (nI_m1 (by omega))
theorem c_safeAt (γ : GE) {b c : Bool} {I : AI} {J : AJ} (hI : MWar I) (t : Int32) (x : Nat) (hx : x < 96) {X : Int32} (eX : X = nI x) : Ct γ mX12_safeAt 2 0 0 [.ref 100, .int t, .int X] (SS b c) I J (rI (safV I t x) (SS b c) I J) := by
  subst eX
  cases he : thr I (I 101 x) t with
  | none => exact c_safeAt0 γ hI t x hx he
  | some w => exact c_safeAt1 γ hI t x hx w he
def safR (I : AI) (t x : Int32) : Int32 := if inB t 0 (I 100 5) && cellB x then safV I t (nv x) else -1
theorem c_Msafe (γ : GE) {b c : Bool} {I : AI} {J : AJ} (hT : I 100 0 = 0) (hI : MWar I) (hL : MLand I) (t x : Int32) : Ct γ mX12_safe 3 0 0 [.ref 100, .int t, .int x] (SS b c) I J (rI (safR I t x) (SS b c) I J) := by
  have ht := told0 hT
  refine ct_of okX12_safe (L := [some (.ref 100), some (.int t), some (.int x)]) (Nat.le_of_ble_eq_true rfl) rfl ?_
  refine r_run okX12_safe 8 (cs := []) (σ' := (12, [some (.ref 100), some (.int t), some (.int x)], [.int ((upI I 100 0 0) 100 5), .int 0, .int t, .ref 100], (SS b c), (upI I 100 0 0), J, 0, 0)) rfl trivial ?_
  simp only [ht]
  show Rj _ _ _ _ _ _ (12, [some (.ref 100), some (.int t), some (.int x)], [.int (I 100 5), .int 0, .int t, .ref 100], (SS b c), I, J, 0, 0)
  refine r_callV okX12_safe okX12_isIn [.int t, .int 0, .int (I 100 5)] [] 100 rfl rfl rfl kkX12_isIn rfl rfl (by decide) rfl rfl rfl (by decide) ⟨Nat.le_refl _, Nat.le_refl _⟩ (Nat.le_of_ble_eq_true rfl) (c_isIn γ t 0 (I 100 5)) (fun v1 S1 I1 J1 hp => ?_)
  obtain ⟨rfl, rfl, rfl, rfl⟩ := hp
  show Rj _ _ _ _ _ _ (15, [some (.ref 100), some (.int t), some (.int x)], [.int (bi (inB t 0 (I 100 5)))], (SS b c), I, J, 0, 0)
  refine r_ifc okX12_safe rfl (fun (h15 : (bi (inB t 0 (I 100 5))) = (0 : Int32)) => ?_) (fun (h15 : ¬ (bi (inB t 0 (I 100 5))) = (0 : Int32)) => ?_)
  · have h15s := bi_0.mp h15
    refine r_run okX12_safe 1 (cs := []) (σ' := (36, [some (.ref 100), some (.int t), some (.int x)], [.int (-1)], (SS b c), I, J, 0, 0)) rfl trivial ?_
    refine r_iret okX12_safe rfl rfl rfl (Nat.le_refl _) (Nat.le_refl _) ?_
    exact ⟨by simp [safR, *], rfl, rfl, rfl⟩
  · have h15s := bi_n0.mp h15
    refine r_run okX12_safe 2 (cs := []) (σ' := (20, [some (.ref 100), some (.int t), some (.int x)], [.int x, .ref 100], (SS b c), I, J, 0, 0)) rfl trivial ?_
    refine r_callV okX12_safe okX12_isCell [.int x] [] 100 rfl rfl rfl kkX12_isCell rfl rfl (by decide) rfl rfl rfl (by decide) ⟨Nat.le_refl _, Nat.le_refl _⟩ (Nat.le_of_ble_eq_true rfl) (c_isCell γ x) (fun v1 S1 I1 J1 hp => ?_)
    obtain ⟨rfl, rfl, rfl, rfl⟩ := hp
    show Rj _ _ _ _ _ _ (23, [some (.ref 100), some (.int t), some (.int x)], [.int (bi (cellB x))], (SS b c), I, J, 0, 0)
    refine r_ifc okX12_safe rfl (fun (h23 : (bi (cellB x)) = (0 : Int32)) => ?_) (fun (h23 : ¬ (bi (cellB x)) = (0 : Int32)) => ?_)
    · have h23s := bi_0.mp h23
      refine r_run okX12_safe 1 (cs := []) (σ' := (36, [some (.ref 100), some (.int t), some (.int x)], [.int (-1)], (SS b c), I, J, 0, 0)) rfl trivial ?_
      refine r_iret okX12_safe rfl rfl rfl (Nat.le_refl _) (Nat.le_refl _) ?_
      exact ⟨by simp [safR, *], rfl, rfl, rfl⟩
    · have h23s := bi_n0.mp h23
      refine r_run okX12_safe 3 (cs := []) (σ' := (29, [some (.ref 100), some (.int t), some (.int x)], [.int x, .int t, .ref 100], (SS b c), I, J, 0, 0)) rfl trivial ?_
      refine r_callV okX12_safe okX12_safeAt [.int t, .int x] [] 100 rfl rfl rfl kkX12_safeAt rfl rfl (by decide) rfl rfl rfl (by decide) ⟨Nat.le_refl _, Nat.le_refl _⟩ (Nat.le_of_ble_eq_true rfl) (c_safeAt γ hI t (nv x) (cell_lt h23s).1 (cell_lt h23s).2) (fun v1 S1 I1 J1 hp => ?_)
      obtain ⟨rfl, rfl, rfl, rfl⟩ := hp
      show Rj _ _ _ _ _ _ (32, [some (.ref 100), some (.int t), some (.int x)], [.int (safV I t (nv x))], (SS b c), I, J, 0, 0)
      refine r_run okX12_safe 1 (cs := []) (σ' := (36, [some (.ref 100), some (.int t), some (.int x)], [.int (safV I t (nv x))], (SS b c), I, J, 0, 0)) rfl trivial ?_
      refine r_iret okX12_safe rfl rfl rfl (Nat.le_refl _) (Nat.le_refl _) ?_
      exact ⟨by simp [safR, *], rfl, rfl, rfl⟩
