/-! ===== the reference: warnings ===== -/
def MWar (I : AI) : Prop := rg 201 (I 100 45) ∧ rg 720 (I 100 5) ∧ (∀ k, k < 8 → rg 101 (I 133 k)) ∧ ∀ w, w < nv (I 100 45) → rg 8 (I 127 w) ∧ rg 720 (I 128 w) ∧ rg 800 (I 129 w) ∧ rg 101 (I 130 w) ∧ rg 3 (I 131 w)
/-- the last warning of those below n that is there -/
def thrN (I : AI) (y t : Int32) : Nat → Option Nat
  | 0 => none
  | n + 1 => if I 127 n = y ∧ I 128 n ≤ t ∧ t < I 129 n then some n else thrN I y t n
def thr (I : AI) (y t : Int32) : Option Nat := thrN I y t (nv (I 100 45))
theorem thrN_lt {I : AI} {y t : Int32} : ∀ {n w : Nat}, thrN I y t n = some w → w < n
  | 0, w, h => by cases h
  | n + 1, w, h => by
    unfold thrN at h
    split at h
    · cases h; omega
    · have := thrN_lt h; omega
theorem lp_thr (γ : GE) {b c : Bool} {I : AI} {J : AJ} (y t : Int32) : ∀ (n : Nat), n < 201 → Rj γ mX12_thereAt 0 0 0 (rI (bsI (thrN I y t n)) (SS b c) I J) (7, [some (.ref 100), some (.int y), some (.int t), some (.int (nI n - 1))], [], (SS b c), I, J, 0, 0) := by
  intro n
  induction n with
  | zero =>
    intro hn
    refine r_run okX12_thereAt 1 (cs := []) (σ' := (8, [some (.ref 100), some (.int y), some (.int t), some (.int (nI 0 - 1))], [.int (nI 0 - 1)], (SS b c), I, J, 0, 0)) rfl trivial ?_
    refine r_ifc okX12_thereAt rfl (fun (h8 : (nI 0 - 1) < (0 : Int32)) => ?_) (fun (h8 : ¬ (nI 0 - 1) < (0 : Int32)) => ?_)
    · refine r_run okX12_thereAt 1 (cs := []) (σ' := (50, [some (.ref 100), some (.int y), some (.int t), some (.int (nI 0 - 1))], [.int (-1)], (SS b c), I, J, 0, 0)) rfl trivial ?_
      refine r_iret okX12_thereAt rfl rfl rfl (Nat.le_refl _) (Nat.le_refl _) ?_
      exact ⟨rfl, rfl, rfl, rfl⟩
    · exact absurd (by decide) h8
  | succ n ih =>
    intro hn
    rw [nI_pred]
    have cn : (nI n).toNatClampNeg = n := nI_clamp (by omega)
    refine r_run okX12_thereAt 1 (cs := []) (σ' := (8, [some (.ref 100), some (.int y), some (.int t), some (.int (nI n))], [.int (nI n)], (SS b c), I, J, 0, 0)) rfl trivial ?_
    refine r_ifc okX12_thereAt rfl (fun (h8 : (nI n) < (0 : Int32)) => ?_) (fun (h8 : ¬ (nI n) < (0 : Int32)) => ?_)
    · exact absurd h8 (nI_pos (by omega))
    · refine r_run okX12_thereAt 5 (cs := [vp_in (nI n) 200]) (σ' := (18, [some (.ref 100), some (.int y), some (.int t), some (.int (nI n))], [.int y, .int (I 127 ((nI n).toNatClampNeg))], (SS b c), I, J, 0, 0)) rfl ⟨(vin (by omega) (by decide)), trivial⟩ ?_
      simp only [cn]
      show Rj _ _ _ _ _ _ (18, [some (.ref 100), some (.int y), some (.int t), some (.int (nI n))], [.int y, .int (I 127 n)], (SS b c), I, J, 0, 0)
      refine r_icmp okX12_thereAt rfl (fun (h18 : ¬ (I 127 n) = y) => ?_) (fun h180 => ?_)
      · refine r_run okX12_thereAt 2 (cs := []) (σ' := (7, [some (.ref 100), some (.int y), some (.int t), some (.int (nI n + (-1)))], [], (SS b c), I, J, 0, 0)) rfl trivial ?_
        rw [add_m1, thrN, if_neg (fun q => h18 q.1)]
        exact ih (by omega)
      · have h18 : (I 127 n) = y := Classical.not_not.mp h180
        refine r_run okX12_thereAt 5 (cs := [vp_in (nI n) 200]) (σ' := (28, [some (.ref 100), some (.int y), some (.int t), some (.int (nI n))], [.int t, .int (I 128 ((nI n).toNatClampNeg))], (SS b c), I, J, 0, 0)) rfl ⟨(vin (by omega) (by decide)), trivial⟩ ?_
        simp only [cn]
        show Rj _ _ _ _ _ _ (28, [some (.ref 100), some (.int y), some (.int t), some (.int (nI n))], [.int t, .int (I 128 n)], (SS b c), I, J, 0, 0)
        refine r_icmp okX12_thereAt rfl (fun (h28 : t < (I 128 n)) => ?_) (fun (h28 : ¬ t < (I 128 n)) => ?_)
        · refine r_run okX12_thereAt 2 (cs := []) (σ' := (7, [some (.ref 100), some (.int y), some (.int t), some (.int (nI n + (-1)))], [], (SS b c), I, J, 0, 0)) rfl trivial ?_
          rw [add_m1, thrN, if_neg (fun q => absurd h28 (Int32.not_lt.mpr q.2.1))]
          exact ih (by omega)
        · refine r_run okX12_thereAt 5 (cs := [vp_in (nI n) 200]) (σ' := (38, [some (.ref 100), some (.int y), some (.int t), some (.int (nI n))], [.int (I 129 ((nI n).toNatClampNeg)), .int t], (SS b c), I, J, 0, 0)) rfl ⟨(vin (by omega) (by decide)), trivial⟩ ?_
          simp only [cn]
          show Rj _ _ _ _ _ _ (38, [some (.ref 100), some (.int y), some (.int t), some (.int (nI n))], [.int (I 129 n), .int t], (SS b c), I, J, 0, 0)
          refine r_icmp okX12_thereAt rfl (fun (h38 : (I 129 n) ≤ t) => ?_) (fun (h38 : ¬ (I 129 n) ≤ t) => ?_)
          · refine r_run okX12_thereAt 2 (cs := []) (σ' := (7, [some (.ref 100), some (.int y), some (.int t), some (.int (nI n + (-1)))], [], (SS b c), I, J, 0, 0)) rfl trivial ?_
            rw [add_m1, thrN, if_neg (fun q => absurd h38 (Int32.not_le.mpr q.2.2))]
            exact ih (by omega)
          · refine r_run okX12_thereAt 1 (cs := []) (σ' := (42, [some (.ref 100), some (.int y), some (.int t), some (.int (nI n))], [.int (nI n)], (SS b c), I, J, 0, 0)) rfl trivial ?_
            refine r_iret okX12_thereAt rfl rfl rfl (Nat.le_refl _) (Nat.le_refl _) ?_
            rw [thrN, if_pos ⟨h18, Int32.not_lt.mp h28, Int32.not_le.mp h38⟩]
            exact ⟨rfl, rfl, rfl, rfl⟩
theorem c_thereAt (γ : GE) {b c : Bool} {I : AI} {J : AJ} (hI : rg 201 (I 100 45)) (y t : Int32) : Ct γ mX12_thereAt 0 0 0 [.ref 100, .int y, .int t] (SS b c) I J (rI (bsI (thr I y t)) (SS b c) I J) := by
  refine ct_of okX12_thereAt (L := [some (.ref 100), some (.int y), some (.int t), none]) (Nat.le_of_ble_eq_true rfl) rfl ?_
  refine r_run okX12_thereAt 5 (cs := []) (σ' := (7, [some (.ref 100), some (.int y), some (.int t), some (.int ((I 100 45) - 1))], [], (SS b c), I, J, 0, 0)) rfl trivial ?_
  obtain ⟨m, hm, em⟩ := hI
  rw [thr, em, nv_nI (by omega)]
  exact lp_thr γ y t m hm
def lifB (I : AI) (y : Int32) : Bool := (thr I y (I 100 5)).isSome
def lifN (I : AI) (y : Int32) : AI := match thr I y (I 100 5) with
  | none => I
  | some w => upI I 129 w (I 100 5)
theorem thr_lt {I : AI} {y t : Int32} {w : Nat} (hI : rg 201 (I 100 45)) (h : thr I y t = some w) : w < nv (I 100 45) ∧ w < 200 := by
  have := thrN_lt h
  have h2 := (rg_nv hI (by decide)).1
  exact ⟨this, by omega⟩
theorem c_thereAt1 (γ : GE) {b c : Bool} {I : AI} {J : AJ} (hI : rg 201 (I 100 45)) {y t x : Int32} (he : bsI (thr I y t) = x) : Ct γ mX12_thereAt 0 0 0 [.ref 100, .int y, .int t] (SS b c) I J (rI x (SS b c) I J) := by
  subst he; exact c_thereAt γ hI y t
theorem c_lifts0 (γ : GE) {b c : Bool} {I : AI} {J : AJ} (hI : rg 201 (I 100 45)) (y : Int32) (he : thr I y (I 100 5) = none) : Ct γ mX12_lifts 1 0 0 [.ref 100, .int y] (SS b c) I J (rI (bi (lifB I y)) (SS b c) (lifN I y) J) := by
  refine ct_of okX12_lifts (L := [some (.ref 100), some (.int y), none]) (Nat.le_of_ble_eq_true rfl) rfl ?_
  refine r_run okX12_lifts 4 (cs := []) (σ' := (6, [some (.ref 100), some (.int y), none], [.int (I 100 5), .int y, .ref 100], (SS b c), I, J, 0, 0)) rfl trivial ?_
  refine r_callV okX12_lifts okX12_thereAt [.int y, .int (I 100 5)] [] 100 rfl rfl rfl kkX12_thereAt rfl rfl (by decide) rfl rfl rfl (by decide) ⟨Nat.le_refl _, Nat.le_refl _⟩ (Nat.le_of_ble_eq_true rfl) (c_thereAt1 γ hI (by rw [he]; try rfl)) (fun v1 S1 I1 J1 hp => ?_)
  obtain ⟨rfl, rfl, rfl, rfl⟩ := hp
  show Rj _ _ _ _ _ _ (9, [some (.ref 100), some (.int y), none], [.int (-1)], (SS b c), I, J, 0, 0)
  refine r_run okX12_lifts 3 (cs := []) (σ' := (12, [some (.ref 100), some (.int y), some (.int (-1))], [.int (-1), .int (-1)], (SS b c), I, J, 0, 0)) rfl trivial ?_
  refine r_icmp okX12_lifts rfl (fun (h12 : ¬ ((-1) : Int32) = ((-1) : Int32)) => ?_) (fun h120 => ?_)
  · exact absurd h12 (by decide)
  · have h12 : ((-1) : Int32) = ((-1) : Int32) := Classical.not_not.mp h120
    refine r_run okX12_lifts 1 (cs := []) (σ' := (16, [some (.ref 100), some (.int y), some (.int (-1))], [.int 0], (SS b c), I, J, 0, 0)) rfl trivial ?_
    refine r_iret okX12_lifts rfl rfl (by decide +kernel) (Nat.le_refl _) (Nat.le_refl _) ?_
    exact ⟨by simp [lifB, he, bi_f], rfl, by simp [lifN, he], rfl⟩
theorem c_lifts1 (γ : GE) {b c : Bool} {I : AI} {J : AJ} (hI : rg 201 (I 100 45)) (y : Int32) (w : Nat) (he : thr I y (I 100 5) = some w) : Ct γ mX12_lifts 1 0 0 [.ref 100, .int y] (SS b c) I J (rI (bi (lifB I y)) (SS b c) (lifN I y) J) := by
  have hw := thr_lt hI he
  have cw : (nI w).toNatClampNeg = w := nI_clamp (by omega)
  refine ct_of okX12_lifts (L := [some (.ref 100), some (.int y), none]) (Nat.le_of_ble_eq_true rfl) rfl ?_
  refine r_run okX12_lifts 4 (cs := []) (σ' := (6, [some (.ref 100), some (.int y), none], [.int (I 100 5), .int y, .ref 100], (SS b c), I, J, 0, 0)) rfl trivial ?_
  refine r_callV okX12_lifts okX12_thereAt [.int y, .int (I 100 5)] [] 100 rfl rfl rfl kkX12_thereAt rfl rfl (by decide) rfl rfl rfl (by decide) ⟨Nat.le_refl _, Nat.le_refl _⟩ (Nat.le_of_ble_eq_true rfl) (c_thereAt1 γ hI (by rw [he]; try rfl)) (fun v1 S1 I1 J1 hp => ?_)
  obtain ⟨rfl, rfl, rfl, rfl⟩ := hp
  show Rj _ _ _ _ _ _ (9, [some (.ref 100), some (.int y), none], [.int (nI w)], (SS b c), I, J, 0, 0)
  refine r_run okX12_lifts 3 (cs := []) (σ' := (12, [some (.ref 100), some (.int y), some (.int (nI w))], [.int (-1), .int (nI w)], (SS b c), I, J, 0, 0)) rfl trivial ?_
  refine r_icmp okX12_lifts rfl (fun (h12 : ¬ (nI w) = ((-1) : Int32)) => ?_) (fun h120 => ?_)
  · refine r_run okX12_lifts 7 (cs := [vp_in (nI w) 200]) (σ' := (28, [some (.ref 100), some (.int y), some (.int (nI w))], [.int 1], (SS b c), (upI I 129 ((nI w).toNatClampNeg) (I 100 5)), J, 0, 0)) rfl ⟨(vin hw.2 (by decide)), trivial⟩ ?_
    simp only [cw]
    show Rj _ _ _ _ _ _ (28, [some (.ref 100), some (.int y), some (.int (nI w))], [.int 1], (SS b c), (upI I 129 w (I 100 5)), J, 0, 0)
    refine r_iret okX12_lifts rfl rfl (by decide +kernel) (Nat.le_refl _) (Nat.le_refl _) ?_
    exact ⟨by simp [lifB, he, bi_t], rfl, by simp [lifN, he], rfl⟩
  · have h12 : (nI w) = ((-1) : Int32) := Classical.not_not.mp h120
    exact absurd h12 (nI_m1 (by omega))
theorem c_lifts (γ : GE) {b c : Bool} {I : AI} {J : AJ} (hI : rg 201 (I 100 45)) (y : Int32) : Ct γ mX12_lifts 1 0 0 [.ref 100, .int y] (SS b c) I J (rI (bi (lifB I y)) (SS b c) (lifN I y) J) := by
  cases he : thr I y (I 100 5) with
  | none => exact c_lifts0 γ hI y he
  | some w => exact c_lifts1 γ hI y w he
def cpS (I : AI) (w k : Nat) : AI := fun a b => if a = 132 then (if 96 * w ≤ b ∧ b < 96 * w + k then I 104 (b - 96 * w) else I a b) else I a b
theorem cpS_0 {I : AI} {w : Nat} : cpS I w 0 = I := by funext a b; simp only [cpS]; split <;> (try split) <;> simp_all; omega
theorem cpS_ne {I : AI} {w k a : Nat} (h : a ≠ 132) : cpS I w k a = I a := by funext b; simp [cpS, h]
theorem cpS_s {I : AI} {w k : Nat} : upI (cpS I w k) 132 (96 * w + k) (I 104 k) = cpS I w (k + 1) := by
  funext a b
  simp only [cpS, upI]
  by_cases h : a = 132
  · by_cases h1 : b = 96 * w + k
    · subst h1
      simp [h, Nat.add_sub_cancel_left]
    · have e : (96 * w ≤ b ∧ b < 96 * w + (k + 1)) = (96 * w ≤ b ∧ b < 96 * w + k) := by apply propext; omega
      simp only [h, h1, if_true, if_false, e]
  · simp [h]
/-- a new warning, number w -/
def begX (I : AI) (y m : Int32) (w : Nat) : AI := upI (upI (upI (upI (upI I 127 w y) 128 w (I 100 5)) 129 w (I 100 5 + m)) 130 w (I 133 (nv y))) 131 w 0
def begN (I : AI) (y m : Int32) : AI := match thr I y (I 100 5) with
  | some w => if I 129 w < I 100 5 + m then upI I 129 w (I 100 5 + m) else I
  | none => if I 100 45 = 200 then I else upI (cpS (begX I y m (nv (I 100 45))) (nv (I 100 45)) 96) 100 45 (I 100 45 + 1)
def begV (I : AI) (y : Int32) : Int32 := match thr I y (I 100 5) with
  | some w => nI w
  | none => if I 100 45 = 200 then -1 else I 100 45
theorem lp_beg (γ : GE) {b c : Bool} {I : AI} {J : AJ} {Post : PT} (y m : Int32) (w : Nat) (hw : w < 200) (hz : ∀ x, x < 96 → bz (I 104 x)) (e4 : I 100 45 = nI w) (K : Rj γ mX12_begin 1 0 0 Post (157, [some (.ref 100), some (.int y), some (.int m), some (.int (-1)), none], [], (SS b c), (cpS I w 96), J, 0, 0)) : ∀ (j q : Nat), q + j = 96 → Rj γ mX12_begin 1 0 0 (Post) (122, [some (.ref 100), some (.int y), some (.int m), some (.int (-1)), some (.int (nI q))], [], (SS b c), (cpS I w q), J, 0, 0) := by
  intro j
  induction j with
  | zero =>
    intro q  hj
    refine r_run okX12_begin 2 (cs := []) (σ' := (126, [some (.ref 100), some (.int y), some (.int m), some (.int (-1)), some (.int (nI q))], [.int 96, .int (nI q)], (SS b c), (cpS I w q), J, 0, 0)) rfl trivial ?_
    refine r_icmp okX12_begin rfl (fun (h126 : (96 : Int32) ≤ (nI q)) => ?_) (fun (h126 : ¬ (96 : Int32) ≤ (nI q)) => ?_)
    · rw [show q = 96 by omega]
      refine r_weak (L' := [some (.ref 100), some (.int y), some (.int m), some (.int (-1)), none]) ⟨rfl, rfl, rfl, rfl, trivial⟩ K
    · exact absurd (nI_le (a := 96) (by omega) (by omega)) h126
  | succ j ih =>
    intro q  hj
    have e45 : (cpS I w q) 100 45 = nI w := by rw [cpS_ne (by decide)]; exact e4
    have e1 : (96 : Int32) * nI w + nI q = nI (96 * w + q) := mul_add_nI 96 w q
    have cq0 : ((96 : Int32) * nI w + nI q).toNatClampNeg = 96 * w + q := by rw [e1]; exact nI_clamp (by omega)
    have cq : ((96 : Int32) * (cpS I w q) 100 45 + nI q).toNatClampNeg = 96 * w + q := by rw [e45]; exact cq0
    have vq : vp_in ((96 : Int32) * (cpS I w q) 100 45 + nI q) 19200 := by rw [e45, e1]; exact vin (by omega) (by decide)
    have c1 : (nI q).toNatClampNeg = q := nI_clamp (by omega)
    have e104 : (cpS I w q) 104 q = I 104 q := by rw [cpS_ne (by decide)]
    have hbz : bz ((cpS I w q) 104 (nI q).toNatClampNeg) := by rw [c1, e104]; exact hz q (by omega)
    refine r_run okX12_begin 2 (cs := []) (σ' := (126, [some (.ref 100), some (.int y), some (.int m), some (.int (-1)), some (.int (nI q))], [.int 96, .int (nI q)], (SS b c), (cpS I w q), J, 0, 0)) rfl trivial ?_
    refine r_icmp okX12_begin rfl (fun (h126 : (96 : Int32) ≤ (nI q)) => ?_) (fun (h126 : ¬ (96 : Int32) ≤ (nI q)) => ?_)
    · exact absurd h126 (nI_ge (b := 96) (by omega) (by decide))
    · refine r_run okX12_begin 15 (cs := [vp_in (nI q) 96, vp_in ((96 * ((cpS I w q) 100 45)) + (nI q)) 19200, bz ((cpS I w q) 104 ((nI q).toNatClampNeg))]) (σ' := (122, [some (.ref 100), some (.int y), some (.int m), some (.int (-1)), some (.int (nI q + 1))], [], (SS b c), (upI (cpS I w q) 132 (((96 * ((cpS I w q) 100 45)) + (nI q)).toNatClampNeg) ((cpS I w q) 104 ((nI q).toNatClampNeg))), J, 0, 0)) rfl ⟨(vin (by omega) (by decide)), vq, hbz, trivial⟩ ?_
      simp only [e45, cq0, c1, e104]
      show Rj _ _ _ _ _ _ (122, [some (.ref 100), some (.int y), some (.int m), some (.int (-1)), some (.int (nI q + 1))], [], (SS b c), (upI (cpS I w q) 132 (96 * w + q) (I 104 q)), J, 0, 0)
      rw [cpS_s, ← nI_succ]
      exact ih (q + 1) (by omega)
theorem c_begin1 (γ : GE) {b c : Bool} {I : AI} {J : AJ} (hI : MWar I) (hL : MLand I) (y m : Int32) (hy : ctyB y = true) (w : Nat) (he : thr I y (I 100 5) = some w) : Ct γ mX12_begin 1 0 0 [.ref 100, .int y, .int m] (SS b c) I J (rI (begV I y) (SS b c) (begN I y m) J) := by
  have hw := thr_lt hI.1 he
  have cw : (nI w).toNatClampNeg = w := nI_clamp (by omega)
  refine ct_of okX12_begin (L := [some (.ref 100), some (.int y), some (.int m), none, none]) (Nat.le_of_ble_eq_true rfl) rfl ?_
  refine r_run okX12_begin 4 (cs := []) (σ' := (6, [some (.ref 100), some (.int y), some (.int m), none, none], [.int (I 100 5), .int y, .ref 100], (SS b c), I, J, 0, 0)) rfl trivial ?_
  refine r_callV okX12_begin okX12_thereAt [.int y, .int (I 100 5)] [] 100 rfl rfl rfl kkX12_thereAt rfl rfl (by decide) rfl rfl rfl (by decide) ⟨Nat.le_refl _, Nat.le_refl _⟩ (Nat.le_of_ble_eq_true rfl) (c_thereAt1 γ hI.1 (by rw [he]; try rfl)) (fun v1 S1 I1 J1 hp => ?_)
  obtain ⟨rfl, rfl, rfl, rfl⟩ := hp
  show Rj _ _ _ _ _ _ (9, [some (.ref 100), some (.int y), some (.int m), none, none], [.int (nI w)], (SS b c), I, J, 0, 0)
  refine r_run okX12_begin 3 (cs := []) (σ' := (12, [some (.ref 100), some (.int y), some (.int m), some (.int (nI w)), none], [.int (-1), .int (nI w)], (SS b c), I, J, 0, 0)) rfl trivial ?_
  refine r_icmp okX12_begin rfl (fun (h12 : (nI w) = ((-1) : Int32)) => ?_) (fun (h12 : ¬ (nI w) = ((-1) : Int32)) => ?_)
  · exact absurd h12 (nI_m1 (by omega))
  · refine r_run okX12_begin 8 (cs := [vp_in (nI w) 200]) (σ' := (27, [some (.ref 100), some (.int y), some (.int m), some (.int (nI w)), none], [.int (I 129 ((nI w).toNatClampNeg)), .int ((I 100 5) + m)], (SS b c), I, J, 0, 0)) rfl ⟨(vin hw.2 (by decide)), trivial⟩ ?_
    simp only [cw]
    show Rj _ _ _ _ _ _ (27, [some (.ref 100), some (.int y), some (.int m), some (.int (nI w)), none], [.int (I 129 w), .int ((I 100 5) + m)], (SS b c), I, J, 0, 0)
    refine r_icmp okX12_begin rfl (fun (h27 : ((I 100 5) + m) ≤ (I 129 w)) => ?_) (fun (h27 : ¬ ((I 100 5) + m) ≤ (I 129 w)) => ?_)
    · refine r_run okX12_begin 1 (cs := []) (σ' := (43, [some (.ref 100), some (.int y), some (.int m), some (.int (nI w)), none], [.int (nI w)], (SS b c), I, J, 0, 0)) rfl trivial ?_
      refine r_iret okX12_begin rfl rfl rfl (Nat.le_refl _) (Nat.le_refl _) ?_
      refine ⟨by simp [begV, he], rfl, ?_, rfl⟩
      simp only [begN, he]
      rw [if_neg (Int32.not_lt.mpr h27)]
    · refine r_run okX12_begin 9 (cs := [vp_in (nI w) 200]) (σ' := (43, [some (.ref 100), some (.int y), some (.int m), some (.int (nI w)), none], [.int (nI w)], (SS b c), (upI I 129 ((nI w).toNatClampNeg) ((I 100 5) + m)), J, 0, 0)) rfl ⟨(vin hw.2 (by decide)), trivial⟩ ?_
      simp only [cw]
      show Rj _ _ _ _ _ _ (43, [some (.ref 100), some (.int y), some (.int m), some (.int (nI w)), none], [.int (nI w)], (SS b c), (upI I 129 w ((I 100 5) + m)), J, 0, 0)
      refine r_iret okX12_begin rfl rfl rfl (Nat.le_refl _) (Nat.le_refl _) ?_
      refine ⟨by simp [begV, he], rfl, ?_, rfl⟩
      simp only [begN, he]
      rw [if_pos (Int32.not_le.mp h27)]
theorem upI_self {I : AI} {a k : Nat} {x : Int32} : upI I a k x a k = x := by simp [upI]
theorem c_begin0 (γ : GE) {b c : Bool} {I : AI} {J : AJ} (hI : MWar I) (hL : MLand I) (y m : Int32) (hy : ctyB y = true) (he : thr I y (I 100 5) = none) : Ct γ mX12_begin 1 0 0 [.ref 100, .int y, .int m] (SS b c) I J (rI (begV I y) (SS b c) (begN I y m) J) := by
  refine ct_of okX12_begin (L := [some (.ref 100), some (.int y), some (.int m), none, none]) (Nat.le_of_ble_eq_true rfl) rfl ?_
  refine r_run okX12_begin 4 (cs := []) (σ' := (6, [some (.ref 100), some (.int y), some (.int m), none, none], [.int (I 100 5), .int y, .ref 100], (SS b c), I, J, 0, 0)) rfl trivial ?_
  refine r_callV okX12_begin okX12_thereAt [.int y, .int (I 100 5)] [] 100 rfl rfl rfl kkX12_thereAt rfl rfl (by decide) rfl rfl rfl (by decide) ⟨Nat.le_refl _, Nat.le_refl _⟩ (Nat.le_of_ble_eq_true rfl) (c_thereAt1 γ hI.1 (by rw [he]; try rfl)) (fun v1 S1 I1 J1 hp => ?_)
  obtain ⟨rfl, rfl, rfl, rfl⟩ := hp
  show Rj _ _ _ _ _ _ (9, [some (.ref 100), some (.int y), some (.int m), none, none], [.int (-1)], (SS b c), I, J, 0, 0)
  refine r_run okX12_begin 3 (cs := []) (σ' := (12, [some (.ref 100), some (.int y), some (.int m), some (.int (-1)), none], [.int (-1), .int (-1)], (SS b c), I, J, 0, 0)) rfl trivial ?_
  refine r_icmp okX12_begin rfl (fun (h12 : ((-1) : Int32) = ((-1) : Int32)) => ?_) (fun (h12 : ¬ ((-1) : Int32) = ((-1) : Int32)) => ?_)
  · refine r_run okX12_begin 3 (cs := []) (σ' := (51, [some (.ref 100), some (.int y), some (.int m), some (.int (-1)), none], [.int 200, .int (I 100 45)], (SS b c), I, J, 0, 0)) rfl trivial ?_
    refine r_icmp okX12_begin rfl (fun (h51 : ¬ (I 100 45) = (200 : Int32)) => ?_) (fun h510 => ?_)
    · obtain ⟨w, hw, ew⟩ := hI.1
      have hw2 : w < 200 := Nat.lt_of_le_of_ne (by omega) (fun q => h51 (by rw [ew, q]; rfl))
      have vw : vp_in (I 100 45) 200 := by rw [ew]; exact vin hw2 (by decide)
      have cw0 : (I 100 45).toNatClampNeg = nv (I 100 45) := rfl
      have cy0 : y.toNatClampNeg = nv y := rfl
      have vy : vp_in y 8 := by obtain ⟨k, hk, rfl⟩ := cty_nat hy; exact vin hk (by decide)
      refine r_run okX12_begin 39 (cs := [vp_in (I 100 45) 200, vp_in (I 100 45) 200, vp_in (I 100 45) 200, vp_in y 8, vp_in (I 100 45) 200, vp_in (I 100 45) 200]) (σ' := (122, [some (.ref 100), some (.int y), some (.int m), some (.int (-1)), some (.int 0)], [], (SS b c), (upI (upI (upI (upI (upI I 127 ((I 100 45).toNatClampNeg) y) 128 ((I 100 45).toNatClampNeg) (I 100 5)) 129 ((I 100 45).toNatClampNeg) ((I 100 5) + m)) 130 ((I 100 45).toNatClampNeg) (I 133 y.toNatClampNeg)) 131 ((I 100 45).toNatClampNeg) 0), J, 0, 0)) rfl ⟨vw, vw, vw, vy, vw, vw, trivial⟩ ?_
      simp only [cw0, cy0]
      show Rj _ _ _ _ _ _ (122, [some (.ref 100), some (.int y), some (.int m), some (.int (-1)), some (.int 0)], [], (SS b c), (upI (upI (upI (upI (upI I 127 (nv (I 100 45)) y) 128 (nv (I 100 45)) (I 100 5)) 129 (nv (I 100 45)) ((I 100 5) + m)) 130 (nv (I 100 45)) (I 133 (nv y))) 131 (nv (I 100 45)) 0), J, 0, 0)
      have h := lp_beg γ (b := b) (c := c) (J := J) (I := begX I y m (nv (I 100 45))) (Post := rI (begV I y) (SS b c) (begN I y m) J) y m (nv (I 100 45)) (by rw [ew, nv_nI (by omega)]; omega) (fun x hx => (hL x hx).2.2.2) (by rw [ew, nv_nI (by omega)]; exact ew) ?_ 96 0 rfl
      · rw [cpS_0, nI_0] at h
        exact h
      · refine r_run okX12_begin 10 (cs := []) (σ' := (173, [some (.ref 100), some (.int y), some (.int m), some (.int (-1)), none], [.int (((upI (cpS (begX I y m (nv (I 100 45))) (nv (I 100 45)) 96) 100 45 (((cpS (begX I y m (nv (I 100 45))) (nv (I 100 45)) 96) 100 45) + 1)) 100 45) - 1)], (SS b c), (upI (cpS (begX I y m (nv (I 100 45))) (nv (I 100 45)) 96) 100 45 (((cpS (begX I y m (nv (I 100 45))) (nv (I 100 45)) 96) 100 45) + 1)), J, 0, 0)) rfl trivial ?_
        refine r_iret okX12_begin rfl rfl rfl (Nat.le_refl _) (Nat.le_refl _) ?_
        refine ⟨?_, rfl, ?_, rfl⟩
        · simp only [begV, he, if_neg h51]
          rw [upI_self]
          rw [cpS_ne (by decide)]
          show _ = some (Value.int (I 100 45 + 1 - 1))
          rw [Int32.add_sub_cancel]
        · simp only [begN, he, if_neg h51]
          rw [cpS_ne (a := 100) (by decide)]
          rfl
    · have h51 : (I 100 45) = (200 : Int32) := Classical.not_not.mp h510
      refine r_run okX12_begin 1 (cs := []) (σ' := (55, [some (.ref 100), some (.int y), some (.int m), some (.int (-1)), none], [.int (-1)], (SS b c), I, J, 0, 0)) rfl trivial ?_
      refine r_iret okX12_begin rfl rfl rfl (Nat.le_refl _) (Nat.le_refl _) ?_
      exact ⟨by simp [begV, he, h51], rfl, by simp [begN, he, h51], rfl⟩
  · exact absurd h12 (by decide)
theorem c_begin (γ : GE) {b c : Bool} {I : AI} {J : AJ} (hI : MWar I) (hL : MLand I) (y m : Int32) (hy : ctyB y = true) : Ct γ mX12_begin 1 0 0 [.ref 100, .int y, .int m] (SS b c) I J (rI (begV I y) (SS b c) (begN I y m) J) := by
  cases he : thr I y (I 100 5) with
  | none => exact c_begin0 γ hI hL y m hy he
  | some w => exact c_begin1 γ hI hL y m hy w he
