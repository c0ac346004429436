/-! ===== Warnings ===== -/
theorem sw_out {x : Int32} (n : Nat) (hn : n < 2 ^ 31) (h : ∀ k, k ≤ n → ¬ x = nI k) : x.toInt < 0 ∨ (n : Int) < x.toInt := by
  by_cases h0 : 0 ≤ x
  · obtain ⟨k, rfl, hk⟩ := nI_ofx h0
    rw [nI_toInt hk]
    have := h k
    refine Or.inr ?_
    have : n < k := Nat.lt_of_not_le fun q => this q rfl
    omega
  · refine Or.inl ?_
    rw [Int32.le_iff_toInt_le, Int32.toInt_zero] at h0; omega
/-- the last warning of a county among the first n -/
def laW (I : AI) (y : Int32) : Nat → Option Nat
  | 0 => none
  | n + 1 => if I 127 n = y then some n else laW I y n
def WDis (I : AI) : Prop := (∀ w, w < nv (I 100 45) → I 128 w ≤ I 100 5 ∧ I 128 w ≤ I 129 w) ∧ ∀ w, w < nv (I 100 45) → ∀ u, u < w → I 127 u = I 127 w → I 129 u ≤ I 128 w
def OWar (I : AI) (J : AJ) : Prop := I 52 11 = I 100 45 ∧ (∀ w, w < nv (I 100 45) → I 53 w = I 127 w ∧ I 54 w = I 128 w ∧ I 55 w = I 129 w ∧ I 56 w = I 130 w ∧ I 57 w = I 131 w ∧ w48 (J 58 w) ∧ w48 (J 59 w) ∧ ∀ x, x < 96 → hs (J 58 w) (J 59 w) x = hsN I w x 96) ∧ ∀ k, k < 8 → I 61 k = I 133 k ∧ I 60 k = bsI (laW I (nI k) (nv (I 100 45)))
def mtW (I : AI) (y t : Int32) (w : Nat) : Prop := I 127 w = y ∧ I 128 w ≤ t ∧ t < I 129 w
theorem laW_lt {I : AI} {y : Int32} : ∀ {n w : Nat}, laW I y n = some w → w < n ∧ I 127 w = y
  | 0, w, h => by cases h
  | n + 1, w, h => by
    unfold laW at h
    split at h
    · rename_i e; cases h; exact ⟨by omega, e⟩
    · have := laW_lt h; exact ⟨by omega, this.2⟩
theorem thr_no {I : AI} {y t : Int32} : ∀ {n : Nat}, (∀ w, w < n → ¬ mtW I y t w) → thrN I y t n = none
  | 0, _ => rfl
  | n + 1, h => by unfold thrN; rw [if_neg (show ¬ (I 127 n = y ∧ I 128 n ≤ t ∧ t < I 129 n) from h n (by omega))]; exact thr_no (fun w hw => h w (by omega))
theorem thr_is {I : AI} {y t : Int32} {q : Nat} (hq : mtW I y t q) : ∀ {n : Nat}, q < n → (∀ w, w < n → mtW I y t w → w = q) → thrN I y t n = some q
  | 0, h, _ => absurd h (Nat.not_lt_zero q)
  | n + 1, h, hu => by
    unfold thrN
    by_cases e : mtW I y t n
    · rw [if_pos (show I 127 n = y ∧ I 128 n ≤ t ∧ t < I 129 n from e), hu n (by omega) e]
    · rw [if_neg (show ¬ (I 127 n = y ∧ I 128 n ≤ t ∧ t < I 129 n) from e)]
      refine thr_is hq (Nat.lt_of_le_of_ne (by omega) fun z => e (z ▸ hq)) (fun w hw => hu w (by omega))
theorem mt_uq {I : AI} (hD : WDis I) {y t : Int32} {w q : Nat} (hw : w < nv (I 100 45)) (hq : q < nv (I 100 45)) (h1 : mtW I y t w) (h2 : mtW I y t q) : w = q := by
  rcases Nat.lt_trichotomy w q with h | h | h
  · have := hD.2 q hq w h (h1.1.trans h2.1.symm)
    exact absurd (Int32.lt_of_lt_of_le h1.2.2 (Int32.le_trans this h2.2.1)) (Int32.lt_irrefl)
  · exact h
  · have := hD.2 w hw q h (h2.1.trans h1.1.symm)
    exact absurd (Int32.lt_of_lt_of_le h2.2.2 (Int32.le_trans this h1.2.1)) (Int32.lt_irrefl)
theorem thr_la {I : AI} (hD : WDis I) {y : Int32} : ∀ m, m ≤ nv (I 100 45) → thrN I y (I 100 5) m = (laW I y m).bind (fun w => if I 100 5 < I 129 w then some w else none)
  | 0, _ => rfl
  | m + 1, h => by
    unfold thrN laW
    by_cases e : I 127 m = y
    · rw [if_pos e]
      by_cases q : I 100 5 < I 129 m
      · rw [if_pos ⟨e, (hD.1 m (by omega)).1, q⟩]; simp [q]
      · rw [if_neg (fun z => q z.2.2), thr_no (fun w hw z => q (Int32.lt_of_lt_of_le z.2.2 (Int32.le_trans (hD.2 m (by omega) w hw (z.1.trans e.symm)) (Int32.le_trans (hD.1 m (by omega)).2 (Int32.le_refl _)))))]
        simp [q]
    · rw [if_neg e, if_neg (fun z => e z.1), thr_la hD m (by omega)]
theorem o_wsize (γ : GE) {b c : Bool} {I : AI} {J : AJ} (hO : OWar I J) (hI : MWar I) : Ct γ mX10_size 0 0 0 [.ref 52] (SS b c) I J (rI (I 100 45) (SS b c) I J) := by
  refine ct_of okX10_size (L := [some (.ref 52)]) (Nat.le_of_ble_eq_true rfl) rfl ?_
  refine r_run okX10_size 2 (cs := []) (σ' := (4, [some (.ref 52)], [.int (I 52 11)], (SS b c), I, J, 0, 0)) rfl trivial ?_
  refine r_iret okX10_size rfl rfl rfl (Nat.le_refl _) (Nat.le_refl _) ?_
  exact ⟨by rw [hO.1], rfl, rfl, rfl⟩
theorem o_earsOf (γ : GE) {b c : Bool} {I : AI} {J : AJ} (hO : OWar I J) (hI : MWar I) {k : Nat} (hk : k < 8) : Ct γ mX10_earsOf 0 0 0 [.ref 52, .int (nI k)] (SS b c) I J (rI (I 133 k) (SS b c) I J) := by
  have ck : (nI k).toNatClampNeg = k := nI_clamp (by omega)
  refine ct_of okX10_earsOf (L := [some (.ref 52), some (.int (nI k))]) (Nat.le_of_ble_eq_true rfl) rfl ?_
  refine r_run okX10_earsOf 4 (cs := [vp_in (nI k) 8]) (σ' := (6, [some (.ref 52), some (.int (nI k))], [.int (I 61 ((nI k).toNatClampNeg))], (SS b c), I, J, 0, 0)) rfl ⟨(vin hk (by decide)), trivial⟩ ?_
  simp only [ck]
  show Rj _ _ _ _ _ _ (6, [some (.ref 52), some (.int (nI k))], [.int (I 61 k)], (SS b c), I, J, 0, 0)
  refine r_iret okX10_earsOf rfl rfl rfl (Nat.le_refl _) (Nat.le_refl _) ?_
  exact ⟨by rw [(hO.2.2 k hk).1], rfl, rfl, rfl⟩
theorem o_beginOf (γ : GE) {b c : Bool} {I : AI} {J : AJ} (hO : OWar I J) (hI : MWar I) {w : Nat} (hw : w < nv (I 100 45)) : Ct γ mX10_beginOf 0 0 0 [.ref 52, .int (nI w)] (SS b c) I J (rI (I 128 w) (SS b c) I J) := by
  have hw2 : w < 200 := by have := (rg_nv hI.1 (by decide)).1; omega
  have cw : (nI w).toNatClampNeg = w := nI_clamp (by omega)
  obtain ⟨e53, e54, e55, e56, e57, l1, l2, l3⟩ := hO.2.1 w hw
  refine ct_of okX10_beginOf (L := [some (.ref 52), some (.int (nI w))]) (Nat.le_of_ble_eq_true rfl) rfl ?_
  refine r_run okX10_beginOf 4 (cs := [vp_in (nI w) 200]) (σ' := (6, [some (.ref 52), some (.int (nI w))], [.int (I 54 ((nI w).toNatClampNeg))], (SS b c), I, J, 0, 0)) rfl ⟨(vin hw2 (by decide)), trivial⟩ ?_
  simp only [cw, e54]
  show Rj _ _ _ _ _ _ (6, [some (.ref 52), some (.int (nI w))], [.int (I 128 w)], (SS b c), I, J, 0, 0)
  refine r_iret okX10_beginOf rfl rfl rfl (Nat.le_refl _) (Nat.le_refl _) ?_
  exact ⟨rfl, rfl, rfl, rfl⟩
theorem o_cur0 (γ : GE) {b c : Bool} {I : AI} {J : AJ} (hO : OWar I J) (hI : MWar I) (hD : WDis I) {k : Nat} (hk : k < 8) (hl : laW I (nI k) (nv (I 100 45)) = none) : Ct γ mX10_current 0 0 0 [.ref 52, .int (nI k), .int (I 100 5)] (SS b c) I J (rI (bsI (thr I (nI k) (I 100 5))) (SS b c) I J) := by
  have ck : (nI k).toNatClampNeg = k := nI_clamp (by omega)
  have el := (hO.2.2 k hk).2
  have ht := thr_la hD (y := nI k) (nv (I 100 45)) (Nat.le_refl _)
  rw [hl] at el ht
  refine ct_of okX10_current (L := [some (.ref 52), some (.int (nI k)), some (.int (I 100 5)), none]) (Nat.le_of_ble_eq_true rfl) rfl ?_
  refine r_run okX10_current 7 (cs := [vp_in (nI k) 8]) (σ' := (9, [some (.ref 52), some (.int (nI k)), some (.int (I 100 5)), some (.int (I 60 ((nI k).toNatClampNeg)))], [.int (-1), .int (I 60 ((nI k).toNatClampNeg))], (SS b c), I, J, 0, 0)) rfl ⟨(vin hk (by decide)), trivial⟩ ?_
  simp only [ck, el]
  show Rj _ _ _ _ _ _ (9, [some (.ref 52), some (.int (nI k)), some (.int (I 100 5)), some (.int (-1))], [.int (-1), .int (-1)], (SS b c), I, J, 0, 0)
  refine r_icmp okX10_current rfl (fun (h9 : ((-1) : Int32) = ((-1) : Int32)) => ?_) (fun (h9 : ¬ ((-1) : Int32) = ((-1) : Int32)) => ?_)
  · refine r_run okX10_current 1 (cs := []) (σ' := (27, [some (.ref 52), some (.int (nI k)), some (.int (I 100 5)), some (.int (-1))], [.int (-1)], (SS b c), I, J, 0, 0)) rfl trivial ?_
    refine r_iret okX10_current rfl rfl rfl (Nat.le_refl _) (Nat.le_refl _) ?_
    exact ⟨by rw [thr, ht]; rfl, rfl, rfl, rfl⟩
  · exact absurd h9 (by decide)
theorem o_cur1 (γ : GE) {b c : Bool} {I : AI} {J : AJ} (hO : OWar I J) (hI : MWar I) (hD : WDis I) {k : Nat} (hk : k < 8) {w : Nat} (hl : laW I (nI k) (nv (I 100 45)) = some w) : Ct γ mX10_current 0 0 0 [.ref 52, .int (nI k), .int (I 100 5)] (SS b c) I J (rI (bsI (thr I (nI k) (I 100 5))) (SS b c) I J) := by
  have ck : (nI k).toNatClampNeg = k := nI_clamp (by omega)
  have el := (hO.2.2 k hk).2
  have ht := thr_la hD (y := nI k) (nv (I 100 45)) (Nat.le_refl _)
  rw [hl] at el ht
  have hw := (laW_lt hl).1
  have hw2 : w < 200 := by have := (rg_nv hI.1 (by decide)).1; omega
  have cw : (nI w).toNatClampNeg = w := nI_clamp (by omega)
  obtain ⟨e53, e54, e55, e56, e57, l1, l2, l3⟩ := hO.2.1 w hw
  refine ct_of okX10_current (L := [some (.ref 52), some (.int (nI k)), some (.int (I 100 5)), none]) (Nat.le_of_ble_eq_true rfl) rfl ?_
  refine r_run okX10_current 7 (cs := [vp_in (nI k) 8]) (σ' := (9, [some (.ref 52), some (.int (nI k)), some (.int (I 100 5)), some (.int (I 60 ((nI k).toNatClampNeg)))], [.int (-1), .int (I 60 ((nI k).toNatClampNeg))], (SS b c), I, J, 0, 0)) rfl ⟨(vin hk (by decide)), trivial⟩ ?_
  simp only [ck, el]
  show Rj _ _ _ _ _ _ (9, [some (.ref 52), some (.int (nI k)), some (.int (I 100 5)), some (.int (nI w))], [.int (-1), .int (nI w)], (SS b c), I, J, 0, 0)
  refine r_icmp okX10_current rfl (fun (h9 : (nI w) = ((-1) : Int32)) => ?_) (fun (h9 : ¬ (nI w) = ((-1) : Int32)) => ?_)
  · exact absurd h9 (nI_m1 (by omega))
  · refine r_run okX10_current 5 (cs := [vp_in (nI w) 200]) (σ' := (19, [some (.ref 52), some (.int (nI k)), some (.int (I 100 5)), some (.int (nI w))], [.int (I 55 ((nI w).toNatClampNeg)), .int (I 100 5)], (SS b c), I, J, 0, 0)) rfl ⟨(vin hw2 (by decide)), trivial⟩ ?_
    simp only [cw, e55]
    show Rj _ _ _ _ _ _ (19, [some (.ref 52), some (.int (nI k)), some (.int (I 100 5)), some (.int (nI w))], [.int (I 129 w), .int (I 100 5)], (SS b c), I, J, 0, 0)
    refine r_icmp okX10_current rfl (fun (h19 : (I 129 w) ≤ (I 100 5)) => ?_) (fun (h19 : ¬ (I 129 w) ≤ (I 100 5)) => ?_)
    · refine r_run okX10_current 1 (cs := []) (σ' := (27, [some (.ref 52), some (.int (nI k)), some (.int (I 100 5)), some (.int (nI w))], [.int (-1)], (SS b c), I, J, 0, 0)) rfl trivial ?_
      refine r_iret okX10_current rfl rfl rfl (Nat.le_refl _) (Nat.le_refl _) ?_
      refine ⟨?_, rfl, rfl, rfl⟩
      rw [thr, ht]
      simp only [Option.bind_some]
      rw [if_neg (Int32.not_lt.mpr h19)]; rfl
    · refine r_run okX10_current 2 (cs := []) (σ' := (27, [some (.ref 52), some (.int (nI k)), some (.int (I 100 5)), some (.int (nI w))], [.int (nI w)], (SS b c), I, J, 0, 0)) rfl trivial ?_
      refine r_iret okX10_current rfl rfl rfl (Nat.le_refl _) (Nat.le_refl _) ?_
      refine ⟨?_, rfl, rfl, rfl⟩
      rw [thr, ht]
      simp only [Option.bind_some]
      rw [if_pos (Int32.not_le.mp h19)]; rfl
theorem o_current (γ : GE) {b c : Bool} {I : AI} {J : AJ} (hO : OWar I J) (hI : MWar I) (hD : WDis I) {k : Nat} (hk : k < 8) {x : Int32} (hx : x = I 100 5) : Ct γ mX10_current 0 0 0 [.ref 52, .int (nI k), .int x] (SS b c) I J (rI (bsI (thr I (nI k) (I 100 5))) (SS b c) I J) := by
  subst hx
  cases hl : laW I (nI k) (nv (I 100 45)) with
  | none => exact o_cur0 γ hO hI hD hk hl
  | some w => exact o_cur1 γ hO hI hD hk hl
theorem lp_at (γ : GE) {b c : Bool} {I : AI} {J : AJ} (hO : OWar I J) (hI : MWar I) (hD : WDis I) {n : Nat} (hn : n < 201) (en : I 100 45 = nI n) (y t : Int32) : ∀ (j q : Nat), q + j = n → (∀ w, w < q → ¬ mtW I y t w) → Rj γ mX10_at 0 0 0 (rI (bsI (thr I y t)) (SS b c) I J) (2, [some (.ref 52), some (.int y), some (.int t), some (.int (nI q))], [], (SS b c), I, J, 0, 0) := by
  have e11 := hO.1.trans en
  have hnv : nv (I 100 45) = n := by rw [en, nv_nI (by omega)]
  intro j
  induction j with
  | zero =>
    intro q hj hu
    refine r_run okX10_at 3 (cs := []) (σ' := (7, [some (.ref 52), some (.int y), some (.int t), some (.int (nI q))], [.int (I 52 11), .int (nI q)], (SS b c), I, J, 0, 0)) rfl trivial ?_
    simp only [e11]
    show Rj _ _ _ _ _ _ (7, [some (.ref 52), some (.int y), some (.int t), some (.int (nI q))], [.int (nI n), .int (nI q)], (SS b c), I, J, 0, 0)
    refine r_icmp okX10_at rfl (fun (h7 : (nI n) ≤ (nI q)) => ?_) (fun (h7 : ¬ (nI n) ≤ (nI q)) => ?_)
    · refine r_run okX10_at 1 (cs := []) (σ' := (49, [some (.ref 52), some (.int y), some (.int t), some (.int (nI q))], [.int (-1)], (SS b c), I, J, 0, 0)) rfl trivial ?_
      refine r_iret okX10_at rfl rfl rfl (Nat.le_refl _) (Nat.le_refl _) ?_
      have e : q = n := by omega
      subst e
      rw [thr, en, nv_nI (by omega), thr_no hu]
      exact ⟨rfl, rfl, rfl, rfl⟩
    · exact absurd (nI_le (by omega) (by omega)) h7
  | succ j ih =>
    intro q hj hu
    have cq : (nI q).toNatClampNeg = q := nI_clamp (by omega)
    obtain ⟨e53, e54, e55, -⟩ := hO.2.1 q (by omega)
    refine r_run okX10_at 3 (cs := []) (σ' := (7, [some (.ref 52), some (.int y), some (.int t), some (.int (nI q))], [.int (I 52 11), .int (nI q)], (SS b c), I, J, 0, 0)) rfl trivial ?_
    simp only [e11]
    show Rj _ _ _ _ _ _ (7, [some (.ref 52), some (.int y), some (.int t), some (.int (nI q))], [.int (nI n), .int (nI q)], (SS b c), I, J, 0, 0)
    refine r_icmp okX10_at rfl (fun (h7 : (nI n) ≤ (nI q)) => ?_) (fun (h7 : ¬ (nI n) ≤ (nI q)) => ?_)
    · exact absurd h7 (nI_ge (by omega) (by omega))
    · refine r_run okX10_at 5 (cs := [vp_in (nI q) 200]) (σ' := (17, [some (.ref 52), some (.int y), some (.int t), some (.int (nI q))], [.int y, .int (I 53 ((nI q).toNatClampNeg))], (SS b c), I, J, 0, 0)) rfl ⟨(vin (by omega) (by decide)), trivial⟩ ?_
      simp only [cq, e53]
      show Rj _ _ _ _ _ _ (17, [some (.ref 52), some (.int y), some (.int t), some (.int (nI q))], [.int y, .int (I 127 q)], (SS b c), I, J, 0, 0)
      refine r_icmp okX10_at rfl (fun (h17 : ¬ (I 127 q) = y) => ?_) (fun h170 => ?_)
      · refine r_run okX10_at 2 (cs := []) (σ' := (2, [some (.ref 52), some (.int y), some (.int t), some (.int ((nI q) + 1))], [], (SS b c), I, J, 0, 0)) rfl trivial ?_
        rw [nI_eq1]
        exact ih (q + 1) (by omega) (fun w hw => if e : w = q then by subst e; exact fun z => h17 z.1 else hu w (by omega))
      · have h17 : (I 127 q) = y := Classical.not_not.mp h170
        refine r_run okX10_at 5 (cs := [vp_in (nI q) 200]) (σ' := (27, [some (.ref 52), some (.int y), some (.int t), some (.int (nI q))], [.int t, .int (I 54 ((nI q).toNatClampNeg))], (SS b c), I, J, 0, 0)) rfl ⟨(vin (by omega) (by decide)), trivial⟩ ?_
        simp only [cq, e54]
        show Rj _ _ _ _ _ _ (27, [some (.ref 52), some (.int y), some (.int t), some (.int (nI q))], [.int t, .int (I 128 q)], (SS b c), I, J, 0, 0)
        refine r_icmp okX10_at rfl (fun (h27 : t < (I 128 q)) => ?_) (fun (h27 : ¬ t < (I 128 q)) => ?_)
        · refine r_run okX10_at 2 (cs := []) (σ' := (2, [some (.ref 52), some (.int y), some (.int t), some (.int ((nI q) + 1))], [], (SS b c), I, J, 0, 0)) rfl trivial ?_
          rw [nI_eq1]
          exact ih (q + 1) (by omega) (fun w hw => if e : w = q then by subst e; exact fun z => absurd z.2.1 (Int32.not_le.mpr h27) else hu w (by omega))
        · refine r_run okX10_at 5 (cs := [vp_in (nI q) 200]) (σ' := (37, [some (.ref 52), some (.int y), some (.int t), some (.int (nI q))], [.int (I 55 ((nI q).toNatClampNeg)), .int t], (SS b c), I, J, 0, 0)) rfl ⟨(vin (by omega) (by decide)), trivial⟩ ?_
          simp only [cq, e55]
          show Rj _ _ _ _ _ _ (37, [some (.ref 52), some (.int y), some (.int t), some (.int (nI q))], [.int (I 129 q), .int t], (SS b c), I, J, 0, 0)
          refine r_icmp okX10_at rfl (fun (h37 : (I 129 q) ≤ t) => ?_) (fun (h37 : ¬ (I 129 q) ≤ t) => ?_)
          · refine r_run okX10_at 2 (cs := []) (σ' := (2, [some (.ref 52), some (.int y), some (.int t), some (.int ((nI q) + 1))], [], (SS b c), I, J, 0, 0)) rfl trivial ?_
            rw [nI_eq1]
            exact ih (q + 1) (by omega) (fun w hw => if e : w = q then by subst e; exact fun z => absurd z.2.2 (Int32.not_lt.mpr h37) else hu w (by omega))
          · refine r_run okX10_at 1 (cs := []) (σ' := (41, [some (.ref 52), some (.int y), some (.int t), some (.int (nI q))], [.int (nI q)], (SS b c), I, J, 0, 0)) rfl trivial ?_
            refine r_iret okX10_at rfl rfl rfl (Nat.le_refl _) (Nat.le_refl _) ?_
            have hq : mtW I y t q := ⟨h17, Int32.not_lt.mp h27, Int32.not_le.mp h37⟩
            rw [thr, hnv, thr_is hq (by omega) (fun w hw hm => mt_uq hD (by omega) (by omega) hm hq)]
            exact ⟨rfl, rfl, rfl, rfl⟩
theorem o_at (γ : GE) {b c : Bool} {I : AI} {J : AJ} (hO : OWar I J) (hI : MWar I) (hD : WDis I) (y t : Int32) : Ct γ mX10_at 0 0 0 [.ref 52, .int y, .int t] (SS b c) I J (rI (bsI (thr I y t)) (SS b c) I J) := by
  refine ct_of okX10_at (L := [some (.ref 52), some (.int y), some (.int t), none]) (Nat.le_of_ble_eq_true rfl) rfl ?_
  refine r_run okX10_at 2 (cs := []) (σ' := (2, [some (.ref 52), some (.int y), some (.int t), some (.int 0)], [], (SS b c), I, J, 0, 0)) rfl trivial ?_
  obtain ⟨n, hn, en⟩ := hI.1
  exact lp_at γ hO hI hD hn en y t n 0 (by omega) (fun w hw => absurd hw (Nat.not_lt_zero w))
def lefV (I : AI) (y : Int32) : Int32 := match thr I y (I 100 5) with
  | none => 0
  | some w => I 129 w - I 100 5
def stoI (I : AI) (y : Int32) : AI := match thr I y (I 100 5) with
  | none => I
  | some w => upI I 55 w (I 100 5)
theorem o_left0 (γ : GE) {b c : Bool} {I : AI} {J : AJ} (hO : OWar I J) (hI : MWar I) (hD : WDis I) {k : Nat} (hk : k < 8) (he : thr I (nI k) (I 100 5) = none) : Ct γ mX10_left 1 0 0 [.ref 52, .int (nI k), .int (I 100 5)] (SS b c) I J (rI (lefV I (nI k)) (SS b c) I J) := by
  have eb : bsI (thr I (nI k) (I 100 5)) = (-1) := by rw [he]; rfl
  refine ct_of okX10_left (L := [some (.ref 52), some (.int (nI k)), some (.int (I 100 5)), none]) (Nat.le_of_ble_eq_true rfl) rfl ?_
  refine r_run okX10_left 3 (cs := []) (σ' := (3, [some (.ref 52), some (.int (nI k)), some (.int (I 100 5)), none], [.int (I 100 5), .int (nI k), .ref 52], (SS b c), I, J, 0, 0)) rfl trivial ?_
  refine r_callV okX10_left okX10_current [.int (nI k), .int (I 100 5)] [] 52 rfl rfl rfl kkX10_current rfl rfl (by decide) rfl rfl rfl (by decide) ⟨Nat.le_refl _, Nat.le_refl _⟩ (Nat.le_of_ble_eq_true rfl) (o_current γ hO hI hD hk rfl) (fun v1 S1 I1 J1 hp => ?_)
  obtain ⟨rfl, rfl, rfl, rfl⟩ := hp
  show Rj _ _ _ _ _ _ (6, [some (.ref 52), some (.int (nI k)), some (.int (I 100 5)), none], [.int (bsI (thr I (nI k) (I 100 5)))], (SS b c), I, J, 0, 0)
  simp only [eb]
  show Rj _ _ _ _ _ _ (6, [some (.ref 52), some (.int (nI k)), some (.int (I 100 5)), none], [.int (-1)], (SS b c), I, J, 0, 0)
  refine r_run okX10_left 3 (cs := []) (σ' := (9, [some (.ref 52), some (.int (nI k)), some (.int (I 100 5)), some (.int (-1))], [.int (-1), .int (-1)], (SS b c), I, J, 0, 0)) rfl trivial ?_
  refine r_icmp okX10_left rfl (fun (h9 : ¬ ((-1) : Int32) = ((-1) : Int32)) => ?_) (fun h90 => ?_)
  · exact absurd h9 (by decide)
  · have h9 : ((-1) : Int32) = ((-1) : Int32) := Classical.not_not.mp h90
    refine r_run okX10_left 2 (cs := []) (σ' := (24, [some (.ref 52), some (.int (nI k)), some (.int (I 100 5)), some (.int (-1))], [.int 0], (SS b c), I, J, 0, 0)) rfl trivial ?_
    refine r_iret okX10_left rfl rfl rfl (Nat.le_refl _) (Nat.le_refl _) ?_
    exact ⟨by unfold lefV; rw [he], rfl, rfl, rfl⟩
theorem o_left1 (γ : GE) {b c : Bool} {I : AI} {J : AJ} (hO : OWar I J) (hI : MWar I) (hD : WDis I) {k : Nat} (hk : k < 8) {w : Nat} (he : thr I (nI k) (I 100 5) = some w) : Ct γ mX10_left 1 0 0 [.ref 52, .int (nI k), .int (I 100 5)] (SS b c) I J (rI (lefV I (nI k)) (SS b c) I J) := by
  have eb : bsI (thr I (nI k) (I 100 5)) = (nI w) := by rw [he]; rfl
  have hw := (thr_lt hI.1 he).1
  have hw2 : w < 200 := by have := (rg_nv hI.1 (by decide)).1; omega
  have cw : (nI w).toNatClampNeg = w := nI_clamp (by omega)
  obtain ⟨e53, e54, e55, e56, e57, l1, l2, l3⟩ := hO.2.1 w hw
  refine ct_of okX10_left (L := [some (.ref 52), some (.int (nI k)), some (.int (I 100 5)), none]) (Nat.le_of_ble_eq_true rfl) rfl ?_
  refine r_run okX10_left 3 (cs := []) (σ' := (3, [some (.ref 52), some (.int (nI k)), some (.int (I 100 5)), none], [.int (I 100 5), .int (nI k), .ref 52], (SS b c), I, J, 0, 0)) rfl trivial ?_
  refine r_callV okX10_left okX10_current [.int (nI k), .int (I 100 5)] [] 52 rfl rfl rfl kkX10_current rfl rfl (by decide) rfl rfl rfl (by decide) ⟨Nat.le_refl _, Nat.le_refl _⟩ (Nat.le_of_ble_eq_true rfl) (o_current γ hO hI hD hk rfl) (fun v1 S1 I1 J1 hp => ?_)
  obtain ⟨rfl, rfl, rfl, rfl⟩ := hp
  show Rj _ _ _ _ _ _ (6, [some (.ref 52), some (.int (nI k)), some (.int (I 100 5)), none], [.int (bsI (thr I (nI k) (I 100 5)))], (SS b c), I, J, 0, 0)
  simp only [eb]
  show Rj _ _ _ _ _ _ (6, [some (.ref 52), some (.int (nI k)), some (.int (I 100 5)), none], [.int (nI w)], (SS b c), I, J, 0, 0)
  refine r_run okX10_left 3 (cs := []) (σ' := (9, [some (.ref 52), some (.int (nI k)), some (.int (I 100 5)), some (.int (nI w))], [.int (-1), .int (nI w)], (SS b c), I, J, 0, 0)) rfl trivial ?_
  refine r_icmp okX10_left rfl (fun (h9 : ¬ (nI w) = ((-1) : Int32)) => ?_) (fun h90 => ?_)
  · refine r_run okX10_left 6 (cs := [vp_in (nI w) 200]) (σ' := (24, [some (.ref 52), some (.int (nI k)), some (.int (I 100 5)), some (.int (nI w))], [.int ((I 55 ((nI w).toNatClampNeg)) - (I 100 5))], (SS b c), I, J, 0, 0)) rfl ⟨(vin hw2 (by decide)), trivial⟩ ?_
    simp only [cw, e55]
    show Rj _ _ _ _ _ _ (24, [some (.ref 52), some (.int (nI k)), some (.int (I 100 5)), some (.int (nI w))], [.int ((I 129 w) - (I 100 5))], (SS b c), I, J, 0, 0)
    refine r_iret okX10_left rfl rfl rfl (Nat.le_refl _) (Nat.le_refl _) ?_
    exact ⟨by unfold lefV; rw [he], rfl, rfl, rfl⟩
  · have h9 : (nI w) = ((-1) : Int32) := Classical.not_not.mp h90
    exact absurd h9 (nI_m1 (by omega))
theorem o_left (γ : GE) {b c : Bool} {I : AI} {J : AJ} (hO : OWar I J) (hI : MWar I) (hD : WDis I) {k : Nat} (hk : k < 8) {x : Int32} (hx : x = I 100 5) : Ct γ mX10_left 1 0 0 [.ref 52, .int (nI k), .int x] (SS b c) I J (rI (lefV I (nI k)) (SS b c) I J) := by
  subst hx
  cases he : thr I (nI k) (I 100 5) with
  | none => exact o_left0 γ hO hI hD hk he
  | some w => exact o_left1 γ hO hI hD hk he
theorem o_stop0 (γ : GE) {b c : Bool} {I : AI} {J : AJ} (hO : OWar I J) (hI : MWar I) (hD : WDis I) {k : Nat} (hk : k < 8) (he : thr I (nI k) (I 100 5) = none) : Ct γ mX10_stop 1 0 0 [.ref 52, .int (nI k), .int (I 100 5)] (SS b c) I J (rI (bi (lifB I (nI k))) (SS b c) (stoI I (nI k)) J) := by
  have eb : bsI (thr I (nI k) (I 100 5)) = (-1) := by rw [he]; rfl
  refine ct_of okX10_stop (L := [some (.ref 52), some (.int (nI k)), some (.int (I 100 5)), none]) (Nat.le_of_ble_eq_true rfl) rfl ?_
  refine r_run okX10_stop 3 (cs := []) (σ' := (3, [some (.ref 52), some (.int (nI k)), some (.int (I 100 5)), none], [.int (I 100 5), .int (nI k), .ref 52], (SS b c), I, J, 0, 0)) rfl trivial ?_
  refine r_callV okX10_stop okX10_current [.int (nI k), .int (I 100 5)] [] 52 rfl rfl rfl kkX10_current rfl rfl (by decide) rfl rfl rfl (by decide) ⟨Nat.le_refl _, Nat.le_refl _⟩ (Nat.le_of_ble_eq_true rfl) (o_current γ hO hI hD hk rfl) (fun v1 S1 I1 J1 hp => ?_)
  obtain ⟨rfl, rfl, rfl, rfl⟩ := hp
  show Rj _ _ _ _ _ _ (6, [some (.ref 52), some (.int (nI k)), some (.int (I 100 5)), none], [.int (bsI (thr I (nI k) (I 100 5)))], (SS b c), I, J, 0, 0)
  simp only [eb]
  show Rj _ _ _ _ _ _ (6, [some (.ref 52), some (.int (nI k)), some (.int (I 100 5)), none], [.int (-1)], (SS b c), I, J, 0, 0)
  refine r_run okX10_stop 3 (cs := []) (σ' := (9, [some (.ref 52), some (.int (nI k)), some (.int (I 100 5)), some (.int (-1))], [.int (-1), .int (-1)], (SS b c), I, J, 0, 0)) rfl trivial ?_
  refine r_icmp okX10_stop rfl (fun (h9 : ¬ ((-1) : Int32) = ((-1) : Int32)) => ?_) (fun h90 => ?_)
  · exact absurd h9 (by decide)
  · have h9 : ((-1) : Int32) = ((-1) : Int32) := Classical.not_not.mp h90
    refine r_run okX10_stop 1 (cs := []) (σ' := (13, [some (.ref 52), some (.int (nI k)), some (.int (I 100 5)), some (.int (-1))], [.int 0], (SS b c), I, J, 0, 0)) rfl trivial ?_
    refine r_iret okX10_stop rfl rfl (by decide +kernel) (Nat.le_refl _) (Nat.le_refl _) ?_
    exact ⟨by unfold lifB; rw [he]; rfl, rfl, by unfold stoI; rw [he], rfl⟩
theorem o_stop1 (γ : GE) {b c : Bool} {I : AI} {J : AJ} (hO : OWar I J) (hI : MWar I) (hD : WDis I) {k : Nat} (hk : k < 8) {w : Nat} (he : thr I (nI k) (I 100 5) = some w) : Ct γ mX10_stop 1 0 0 [.ref 52, .int (nI k), .int (I 100 5)] (SS b c) I J (rI (bi (lifB I (nI k))) (SS b c) (stoI I (nI k)) J) := by
  have eb : bsI (thr I (nI k) (I 100 5)) = (nI w) := by rw [he]; rfl
  have hw := (thr_lt hI.1 he).1
  have hw2 : w < 200 := by have := (rg_nv hI.1 (by decide)).1; omega
  have cw : (nI w).toNatClampNeg = w := nI_clamp (by omega)
  obtain ⟨e53, e54, e55, e56, e57, l1, l2, l3⟩ := hO.2.1 w hw
  refine ct_of okX10_stop (L := [some (.ref 52), some (.int (nI k)), some (.int (I 100 5)), none]) (Nat.le_of_ble_eq_true rfl) rfl ?_
  refine r_run okX10_stop 3 (cs := []) (σ' := (3, [some (.ref 52), some (.int (nI k)), some (.int (I 100 5)), none], [.int (I 100 5), .int (nI k), .ref 52], (SS b c), I, J, 0, 0)) rfl trivial ?_
  refine r_callV okX10_stop okX10_current [.int (nI k), .int (I 100 5)] [] 52 rfl rfl rfl kkX10_current rfl rfl (by decide) rfl rfl rfl (by decide) ⟨Nat.le_refl _, Nat.le_refl _⟩ (Nat.le_of_ble_eq_true rfl) (o_current γ hO hI hD hk rfl) (fun v1 S1 I1 J1 hp => ?_)
  obtain ⟨rfl, rfl, rfl, rfl⟩ := hp
  show Rj _ _ _ _ _ _ (6, [some (.ref 52), some (.int (nI k)), some (.int (I 100 5)), none], [.int (bsI (thr I (nI k) (I 100 5)))], (SS b c), I, J, 0, 0)
  simp only [eb]
  show Rj _ _ _ _ _ _ (6, [some (.ref 52), some (.int (nI k)), some (.int (I 100 5)), none], [.int (nI w)], (SS b c), I, J, 0, 0)
  refine r_run okX10_stop 3 (cs := []) (σ' := (9, [some (.ref 52), some (.int (nI k)), some (.int (I 100 5)), some (.int (nI w))], [.int (-1), .int (nI w)], (SS b c), I, J, 0, 0)) rfl trivial ?_
  refine r_icmp okX10_stop rfl (fun (h9 : ¬ (nI w) = ((-1) : Int32)) => ?_) (fun h90 => ?_)
  · refine r_run okX10_stop 6 (cs := [vp_in (nI w) 200]) (σ' := (22, [some (.ref 52), some (.int (nI k)), some (.int (I 100 5)), some (.int (nI w))], [.int 1], (SS b c), (upI I 55 ((nI w).toNatClampNeg) (I 100 5)), J, 0, 0)) rfl ⟨(vin hw2 (by decide)), trivial⟩ ?_
    simp only [cw]
    show Rj _ _ _ _ _ _ (22, [some (.ref 52), some (.int (nI k)), some (.int (I 100 5)), some (.int (nI w))], [.int 1], (SS b c), (upI I 55 w (I 100 5)), J, 0, 0)
    refine r_iret okX10_stop rfl rfl (by decide +kernel) (Nat.le_refl _) (Nat.le_refl _) ?_
    exact ⟨by unfold lifB; rw [he]; rfl, rfl, by unfold stoI; rw [he], rfl⟩
  · have h9 : (nI w) = ((-1) : Int32) := Classical.not_not.mp h90
    exact absurd h9 (nI_m1 (by omega))
theorem o_stop (γ : GE) {b c : Bool} {I : AI} {J : AJ} (hO : OWar I J) (hI : MWar I) (hD : WDis I) {k : Nat} (hk : k < 8) {x : Int32} (hx : x = I 100 5) : Ct γ mX10_stop 1 0 0 [.ref 52, .int (nI k), .int x] (SS b c) I J (rI (bi (lifB I (nI k))) (SS b c) (stoI I (nI k)) J) := by
  subst hx
  cases he : thr I (nI k) (I 100 5) with
  | none => exact o_stop0 γ hO hI hD hk he
  | some w => exact o_stop1 γ hO hI hD hk he
