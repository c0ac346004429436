/-! ===== Warnings against a reference that is not in memory ===== -/
def OWarG (I M : AI) (J : AJ) : Prop := I 52 11 = M 100 45 ∧ (∀ w, w < nv (M 100 45) → I 53 w = M 127 w ∧ I 54 w = M 128 w ∧ I 55 w = M 129 w ∧ I 56 w = M 130 w ∧ I 57 w = M 131 w ∧ w48 (J 58 w) ∧ w48 (J 59 w) ∧ ∀ x, x < 96 → hs (J 58 w) (J 59 w) x = hsN M w x 96) ∧ ∀ k, k < 8 → I 61 k = M 133 k ∧ I 60 k = bsI (laW M (nI k) (nv (M 100 45)))
def stoG (I M : AI) (y : Int32) : AI := match thr M y (M 100 5) with
  | none => I
  | some w => upI I 55 w (M 100 5)
def IsG (I M : AI) (J : AJ) (k : Nat) (m : Int32) (f : Nat → Bool) (I' : AI) (J' : AJ) : Prop := match thr M (nI k) (M 100 5) with
  | some w => upI I 55 w (if M 129 w < M 100 5 + m then M 100 5 + m else M 129 w) = I' ∧ J = J'
  | none => (M 100 45 = 200 ∧ I = I' ∧ J = J') ∨ (¬ M 100 45 = 200 ∧ opnI I (nv (M 100 45)) k (M 100 5) (M 100 5 + m) = I' ∧ OpP J (nv (M 100 45)) f J')
theorem g_earsOf (γ : GE) {b c : Bool} {I M : AI} {J : AJ} (hO : OWarG I M J) (hI : MWar M) {k : Nat} (hk : k < 8) : Ct γ mX10_earsOf 0 0 0 [.ref 52, .int (nI k)] (SS b c) I J (rI (M 133 k) (SS b c) I J) := by
  have ck : (nI k).toNatClampNeg = k := nI_clamp (by omega)
  refine ct_of okX10_earsOf (L := [some (.ref 52), some (.int (nI k))]) (Nat.le_of_ble_eq_true rfl) rfl ?_
  refine r_run okX10_earsOf 4 (cs := [vp_in (nI k) 8]) (σ' := (6, [some (.ref 52), some (.int (nI k))], [.int (I 61 ((nI k).toNatClampNeg))], (SS b c), I, J, 0, 0)) rfl ⟨(vin hk (by decide)), trivial⟩ ?_
  simp only [ck]
  show Rj _ _ _ _ _ _ (6, [some (.ref 52), some (.int (nI k))], [.int (I 61 k)], (SS b c), I, J, 0, 0)
  refine r_iret okX10_earsOf rfl rfl rfl (Nat.le_refl _) (Nat.le_refl _) ?_
  exact ⟨by rw [(hO.2.2 k hk).1], rfl, rfl, rfl⟩
theorem g_cur0 (γ : GE) {b c : Bool} {I M : AI} {J : AJ} (hO : OWarG I M J) (hI : MWar M) (hD : WDis M) {k : Nat} (hk : k < 8) (hl : laW M (nI k) (nv (M 100 45)) = none) : Ct γ mX10_current 0 0 0 [.ref 52, .int (nI k), .int (M 100 5)] (SS b c) I J (rI (bsI (thr M (nI k) (M 100 5))) (SS b c) I J) := by
  have ck : (nI k).toNatClampNeg = k := nI_clamp (by omega)
  have el := (hO.2.2 k hk).2
  have ht := thr_la hD (y := nI k) (nv (M 100 45)) (Nat.le_refl _)
  rw [hl] at el ht
  refine ct_of okX10_current (L := [some (.ref 52), some (.int (nI k)), some (.int (M 100 5)), none]) (Nat.le_of_ble_eq_true rfl) rfl ?_
  refine r_run okX10_current 7 (cs := [vp_in (nI k) 8]) (σ' := (9, [some (.ref 52), some (.int (nI k)), some (.int (M 100 5)), some (.int (I 60 ((nI k).toNatClampNeg)))], [.int (-1), .int (I 60 ((nI k).toNatClampNeg))], (SS b c), I, J, 0, 0)) rfl ⟨(vin hk (by decide)), trivial⟩ ?_
  simp only [ck, el]
  show Rj _ _ _ _ _ _ (9, [some (.ref 52), some (.int (nI k)), some (.int (M 100 5)), some (.int (-1))], [.int (-1), .int (-1)], (SS b c), I, J, 0, 0)
  refine r_icmp okX10_current rfl (fun (h9 : ((-1) : Int32) = ((-1) : Int32)) => ?_) (fun (h9 : ¬ ((-1) : Int32) = ((-1) : Int32)) => ?_)
  · refine r_run okX10_current 1 (cs := []) (σ' := (27, [some (.ref 52), some (.int (nI k)), some (.int (M 100 5)), some (.int (-1))], [.int (-1)], (SS b c), I, J, 0, 0)) rfl trivial ?_
    refine r_iret okX10_current rfl rfl rfl (Nat.le_refl _) (Nat.le_refl _) ?_
    exact ⟨by rw [thr, ht]; rfl, rfl, rfl, rfl⟩
  · exact absurd h9 (by decide)
theorem g_cur1 (γ : GE) {b c : Bool} {I M : AI} {J : AJ} (hO : OWarG I M J) (hI : MWar M) (hD : WDis M) {k : Nat} (hk : k < 8) {w : Nat} (hl : laW M (nI k) (nv (M 100 45)) = some w) : Ct γ mX10_current 0 0 0 [.ref 52, .int (nI k), .int (M 100 5)] (SS b c) I J (rI (bsI (thr M (nI k) (M 100 5))) (SS b c) I J) := by
  have ck : (nI k).toNatClampNeg = k := nI_clamp (by omega)
  have el := (hO.2.2 k hk).2
  have ht := thr_la hD (y := nI k) (nv (M 100 45)) (Nat.le_refl _)
  rw [hl] at el ht
  have hw := (laW_lt hl).1
  have hw2 : w < 200 := by have := (rg_nv hI.1 (by decide)).1; omega
  have cw : (nI w).toNatClampNeg = w := nI_clamp (by omega)
  obtain ⟨e53, e54, e55, e56, e57, l1, l2, l3⟩ := hO.2.1 w hw
  refine ct_of okX10_current (L := [some (.ref 52), some (.int (nI k)), some (.int (M 100 5)), none]) (Nat.le_of_ble_eq_true rfl) rfl ?_
  refine r_run okX10_current 7 (cs := [vp_in (nI k) 8]) (σ' := (9, [some (.ref 52), some (.int (nI k)), some (.int (M 100 5)), some (.int (I 60 ((nI k).toNatClampNeg)))], [.int (-1), .int (I 60 ((nI k).toNatClampNeg))], (SS b c), I, J, 0, 0)) rfl ⟨(vin hk (by decide)), trivial⟩ ?_
  simp only [ck, el]
  show Rj _ _ _ _ _ _ (9, [some (.ref 52), some (.int (nI k)), some (.int (M 100 5)), some (.int (nI w))], [.int (-1), .int (nI w)], (SS b c), I, J, 0, 0)
  refine r_icmp okX10_current rfl (fun (h9 : (nI w) = ((-1) : Int32)) => ?_) (fun (h9 : ¬ (nI w) = ((-1) : Int32)) => ?_)
  · exact absurd h9 (nI_m1 (by omega))
  · refine r_run okX10_current 5 (cs := [vp_in (nI w) 200]) (σ' := (19, [some (.ref 52), some (.int (nI k)), some (.int (M 100 5)), some (.int (nI w))], [.int (I 55 ((nI w).toNatClampNeg)), .int (M 100 5)], (SS b c), I, J, 0, 0)) rfl ⟨(vin hw2 (by decide)), trivial⟩ ?_
    simp only [cw, e55]
    show Rj _ _ _ _ _ _ (19, [some (.ref 52), some (.int (nI k)), some (.int (M 100 5)), some (.int (nI w))], [.int (M 129 w), .int (M 100 5)], (SS b c), I, J, 0, 0)
    refine r_icmp okX10_current rfl (fun (h19 : (M 129 w) ≤ (M 100 5)) => ?_) (fun (h19 : ¬ (M 129 w) ≤ (M 100 5)) => ?_)
    · refine r_run okX10_current 1 (cs := []) (σ' := (27, [some (.ref 52), some (.int (nI k)), some (.int (M 100 5)), some (.int (nI w))], [.int (-1)], (SS b c), I, J, 0, 0)) rfl trivial ?_
      refine r_iret okX10_current rfl rfl rfl (Nat.le_refl _) (Nat.le_refl _) ?_
      refine ⟨?_, rfl, rfl, rfl⟩
      rw [thr, ht]
      simp only [Option.bind_some]
      rw [if_neg (Int32.not_lt.mpr h19)]; rfl
    · refine r_run okX10_current 2 (cs := []) (σ' := (27, [some (.ref 52), some (.int (nI k)), some (.int (M 100 5)), some (.int (nI w))], [.int (nI w)], (SS b c), I, J, 0, 0)) rfl trivial ?_
      refine r_iret okX10_current rfl rfl rfl (Nat.le_refl _) (Nat.le_refl _) ?_
      refine ⟨?_, rfl, rfl, rfl⟩
      rw [thr, ht]
      simp only [Option.bind_some]
      rw [if_pos (Int32.not_le.mp h19)]; rfl
theorem g_current (γ : GE) {b c : Bool} {I M : AI} {J : AJ} (hO : OWarG I M J) (hI : MWar M) (hD : WDis M) {k : Nat} (hk : k < 8) {x : Int32} (hx : x = M 100 5) : Ct γ mX10_current 0 0 0 [.ref 52, .int (nI k), .int x] (SS b c) I J (rI (bsI (thr M (nI k) (M 100 5))) (SS b c) I J) := by
  subst hx
  cases hl : laW M (nI k) (nv (M 100 45)) with
  | none => exact g_cur0 γ hO hI hD hk hl
  | some w => exact g_cur1 γ hO hI hD hk hl
theorem g_left0 (γ : GE) {b c : Bool} {I M : AI} {J : AJ} (hO : OWarG I M J) (hI : MWar M) (hD : WDis M) {k : Nat} (hk : k < 8) (he : thr M (nI k) (M 100 5) = none) : Ct γ mX10_left 1 0 0 [.ref 52, .int (nI k), .int (M 100 5)] (SS b c) I J (rI (lefV M (nI k)) (SS b c) I J) := by
  have eb : bsI (thr M (nI k) (M 100 5)) = (-1) := by rw [he]; rfl
  refine ct_of okX10_left (L := [some (.ref 52), some (.int (nI k)), some (.int (M 100 5)), none]) (Nat.le_of_ble_eq_true rfl) rfl ?_
  refine r_run okX10_left 3 (cs := []) (σ' := (3, [some (.ref 52), some (.int (nI k)), some (.int (M 100 5)), none], [.int (M 100 5), .int (nI k), .ref 52], (SS b c), I, J, 0, 0)) rfl trivial ?_
  refine r_callV okX10_left okX10_current [.int (nI k), .int (M 100 5)] [] 52 rfl rfl rfl kkX10_current rfl rfl (by decide) rfl rfl rfl (by decide) ⟨Nat.le_refl _, Nat.le_refl _⟩ (Nat.le_of_ble_eq_true rfl) (g_current γ hO hI hD hk rfl) (fun v1 S1 I1 J1 hp => ?_)
  obtain ⟨rfl, rfl, rfl, rfl⟩ := hp
  show Rj _ _ _ _ _ _ (6, [some (.ref 52), some (.int (nI k)), some (.int (M 100 5)), none], [.int (bsI (thr M (nI k) (M 100 5)))], (SS b c), I, J, 0, 0)
  simp only [eb]
  show Rj _ _ _ _ _ _ (6, [some (.ref 52), some (.int (nI k)), some (.int (M 100 5)), none], [.int (-1)], (SS b c), I, J, 0, 0)
  refine r_run okX10_left 3 (cs := []) (σ' := (9, [some (.ref 52), some (.int (nI k)), some (.int (M 100 5)), some (.int (-1))], [.int (-1), .int (-1)], (SS b c), I, J, 0, 0)) rfl trivial ?_
  refine r_icmp okX10_left rfl (fun (h9 : ¬ ((-1) : Int32) = ((-1) : Int32)) => ?_) (fun h90 => ?_)
  · exact absurd h9 (by decide)
  · have h9 : ((-1) : Int32) = ((-1) : Int32) := Classical.not_not.mp h90
    refine r_run okX10_left 2 (cs := []) (σ' := (24, [some (.ref 52), some (.int (nI k)), some (.int (M 100 5)), some (.int (-1))], [.int 0], (SS b c), I, J, 0, 0)) rfl trivial ?_
    refine r_iret okX10_left rfl rfl rfl (Nat.le_refl _) (Nat.le_refl _) ?_
    exact ⟨by unfold lefV; rw [he], rfl, rfl, rfl⟩
theorem g_left1 (γ : GE) {b c : Bool} {I M : AI} {J : AJ} (hO : OWarG I M J) (hI : MWar M) (hD : WDis M) {k : Nat} (hk : k < 8) {w : Nat} (he : thr M (nI k) (M 100 5) = some w) : Ct γ mX10_left 1 0 0 [.ref 52, .int (nI k), .int (M 100 5)] (SS b c) I J (rI (lefV M (nI k)) (SS b c) I J) := by
  have eb : bsI (thr M (nI k) (M 100 5)) = (nI w) := by rw [he]; rfl
  have hw := (thr_lt hI.1 he).1
  have hw2 : w < 200 := by have := (rg_nv hI.1 (by decide)).1; omega
  have cw : (nI w).toNatClampNeg = w := nI_clamp (by omega)
  obtain ⟨e53, e54, e55, e56, e57, l1, l2, l3⟩ := hO.2.1 w hw
  refine ct_of okX10_left (L := [some (.ref 52), some (.int (nI k)), some (.int (M 100 5)), none]) (Nat.le_of_ble_eq_true rfl) rfl ?_
  refine r_run okX10_left 3 (cs := []) (σ' := (3, [some (.ref 52), some (.int (nI k)), some (.int (M 100 5)), none], [.int (M 100 5), .int (nI k), .ref 52], (SS b c), I, J, 0, 0)) rfl trivial ?_
  refine r_callV okX10_left okX10_current [.int (nI k), .int (M 100 5)] [] 52 rfl rfl rfl kkX10_current rfl rfl (by decide) rfl rfl rfl (by decide) ⟨Nat.le_refl _, Nat.le_refl _⟩ (Nat.le_of_ble_eq_true rfl) (g_current γ hO hI hD hk rfl) (fun v1 S1 I1 J1 hp => ?_)
  obtain ⟨rfl, rfl, rfl, rfl⟩ := hp
  show Rj _ _ _ _ _ _ (6, [some (.ref 52), some (.int (nI k)), some (.int (M 100 5)), none], [.int (bsI (thr M (nI k) (M 100 5)))], (SS b c), I, J, 0, 0)
  simp only [eb]
  show Rj _ _ _ _ _ _ (6, [some (.ref 52), some (.int (nI k)), some (.int (M 100 5)), none], [.int (nI w)], (SS b c), I, J, 0, 0)
  refine r_run okX10_left 3 (cs := []) (σ' := (9, [some (.ref 52), some (.int (nI k)), some (.int (M 100 5)), some (.int (nI w))], [.int (-1), .int (nI w)], (SS b c), I, J, 0, 0)) rfl trivial ?_
  refine r_icmp okX10_left rfl (fun (h9 : ¬ (nI w) = ((-1) : Int32)) => ?_) (fun h90 => ?_)
  · refine r_run okX10_left 6 (cs := [vp_in (nI w) 200]) (σ' := (24, [some (.ref 52), some (.int (nI k)), some (.int (M 100 5)), some (.int (nI w))], [.int ((I 55 ((nI w).toNatClampNeg)) - (M 100 5))], (SS b c), I, J, 0, 0)) rfl ⟨(vin hw2 (by decide)), trivial⟩ ?_
    simp only [cw, e55]
    show Rj _ _ _ _ _ _ (24, [some (.ref 52), some (.int (nI k)), some (.int (M 100 5)), some (.int (nI w))], [.int ((M 129 w) - (M 100 5))], (SS b c), I, J, 0, 0)
    refine r_iret okX10_left rfl rfl rfl (Nat.le_refl _) (Nat.le_refl _) ?_
    exact ⟨by unfold lefV; rw [he], rfl, rfl, rfl⟩
  · have h9 : (nI w) = ((-1) : Int32) := Classical.not_not.mp h90
    exact absurd h9 (nI_m1 (by omega))
theorem g_left (γ : GE) {b c : Bool} {I M : AI} {J : AJ} (hO : OWarG I M J) (hI : MWar M) (hD : WDis M) {k : Nat} (hk : k < 8) {x : Int32} (hx : x = M 100 5) : Ct γ mX10_left 1 0 0 [.ref 52, .int (nI k), .int x] (SS b c) I J (rI (lefV M (nI k)) (SS b c) I J) := by
  subst hx
  cases he : thr M (nI k) (M 100 5) with
  | none => exact g_left0 γ hO hI hD hk he
  | some w => exact g_left1 γ hO hI hD hk he
theorem g_stop0 (γ : GE) {b c : Bool} {I M : AI} {J : AJ} (hO : OWarG I M J) (hI : MWar M) (hD : WDis M) {k : Nat} (hk : k < 8) (he : thr M (nI k) (M 100 5) = none) : Ct γ mX10_stop 1 0 0 [.ref 52, .int (nI k), .int (M 100 5)] (SS b c) I J (rI (bi (lifB M (nI k))) (SS b c) (stoG I M (nI k)) J) := by
  have eb : bsI (thr M (nI k) (M 100 5)) = (-1) := by rw [he]; rfl
  refine ct_of okX10_stop (L := [some (.ref 52), some (.int (nI k)), some (.int (M 100 5)), none]) (Nat.le_of_ble_eq_true rfl) rfl ?_
  refine r_run okX10_stop 3 (cs := []) (σ' := (3, [some (.ref 52), some (.int (nI k)), some (.int (M 100 5)), none], [.int (M 100 5), .int (nI k), .ref 52], (SS b c), I, J, 0, 0)) rfl trivial ?_
  refine r_callV okX10_stop okX10_current [.int (nI k), .int (M 100 5)] [] 52 rfl rfl rfl kkX10_current rfl rfl (by decide) rfl rfl rfl (by decide) ⟨Nat.le_refl _, Nat.le_refl _⟩ (Nat.le_of_ble_eq_true rfl) (g_current γ hO hI hD hk rfl) (fun v1 S1 I1 J1 hp => ?_)
  obtain ⟨rfl, rfl, rfl, rfl⟩ := hp
  show Rj _ _ _ _ _ _ (6, [some (.ref 52), some (.int (nI k)), some (.int (M 100 5)), none], [.int (bsI (thr M (nI k) (M 100 5)))], (SS b c), I, J, 0, 0)
  simp only [eb]
  show Rj _ _ _ _ _ _ (6, [some (.ref 52), some (.int (nI k)), some (.int (M 100 5)), none], [.int (-1)], (SS b c), I, J, 0, 0)
  refine r_run okX10_stop 3 (cs := []) (σ' := (9, [some (.ref 52), some (.int (nI k)), some (.int (M 100 5)), some (.int (-1))], [.int (-1), .int (-1)], (SS b c), I, J, 0, 0)) rfl trivial ?_
  refine r_icmp okX10_stop rfl (fun (h9 : ¬ ((-1) : Int32) = ((-1) : Int32)) => ?_) (fun h90 => ?_)
  · exact absurd h9 (by decide)
  · have h9 : ((-1) : Int32) = ((-1) : Int32) := Classical.not_not.mp h90
    refine r_run okX10_stop 1 (cs := []) (σ' := (13, [some (.ref 52), some (.int (nI k)), some (.int (M 100 5)), some (.int (-1))], [.int 0], (SS b c), I, J, 0, 0)) rfl trivial ?_
    refine r_iret okX10_stop rfl rfl (by decide +kernel) (Nat.le_refl _) (Nat.le_refl _) ?_
    exact ⟨by unfold lifB; rw [he]; rfl, rfl, by unfold stoG; rw [he], rfl⟩
theorem g_stop1 (γ : GE) {b c : Bool} {I M : AI} {J : AJ} (hO : OWarG I M J) (hI : MWar M) (hD : WDis M) {k : Nat} (hk : k < 8) {w : Nat} (he : thr M (nI k) (M 100 5) = some w) : Ct γ mX10_stop 1 0 0 [.ref 52, .int (nI k), .int (M 100 5)] (SS b c) I J (rI (bi (lifB M (nI k))) (SS b c) (stoG I M (nI k)) J) := by
  have eb : bsI (thr M (nI k) (M 100 5)) = (nI w) := by rw [he]; rfl
  have hw := (thr_lt hI.1 he).1
  have hw2 : w < 200 := by have := (rg_nv hI.1 (by decide)).1; omega
  have cw : (nI w).toNatClampNeg = w := nI_clamp (by omega)
  obtain ⟨e53, e54, e55, e56, e57, l1, l2, l3⟩ := hO.2.1 w hw
  refine ct_of okX10_stop (L := [some (.ref 52), some (.int (nI k)), some (.int (M 100 5)), none]) (Nat.le_of_ble_eq_true rfl) rfl ?_
  refine r_run okX10_stop 3 (cs := []) (σ' := (3, [some (.ref 52), some (.int (nI k)), some (.int (M 100 5)), none], [.int (M 100 5), .int (nI k), .ref 52], (SS b c), I, J, 0, 0)) rfl trivial ?_
  refine r_callV okX10_stop okX10_current [.int (nI k), .int (M 100 5)] [] 52 rfl rfl rfl kkX10_current rfl rfl (by decide) rfl rfl rfl (by decide) ⟨Nat.le_refl _, Nat.le_refl _⟩ (Nat.le_of_ble_eq_true rfl) (g_current γ hO hI hD hk rfl) (fun v1 S1 I1 J1 hp => ?_)
  obtain ⟨rfl, rfl, rfl, rfl⟩ := hp
  show Rj _ _ _ _ _ _ (6, [some (.ref 52), some (.int (nI k)), some (.int (M 100 5)), none], [.int (bsI (thr M (nI k) (M 100 5)))], (SS b c), I, J, 0, 0)
  simp only [eb]
  show Rj _ _ _ _ _ _ (6, [some (.ref 52), some (.int (nI k)), some (.int (M 100 5)), none], [.int (nI w)], (SS b c), I, J, 0, 0)
  refine r_run okX10_stop 3 (cs := []) (σ' := (9, [some (.ref 52), some (.int (nI k)), some (.int (M 100 5)), some (.int (nI w))], [.int (-1), .int (nI w)], (SS b c), I, J, 0, 0)) rfl trivial ?_
  refine r_icmp okX10_stop rfl (fun (h9 : ¬ (nI w) = ((-1) : Int32)) => ?_) (fun h90 => ?_)
  · refine r_run okX10_stop 6 (cs := [vp_in (nI w) 200]) (σ' := (22, [some (.ref 52), some (.int (nI k)), some (.int (M 100 5)), some (.int (nI w))], [.int 1], (SS b c), (upI I 55 ((nI w).toNatClampNeg) (M 100 5)), J, 0, 0)) rfl ⟨(vin hw2 (by decide)), trivial⟩ ?_
    simp only [cw]
    show Rj _ _ _ _ _ _ (22, [some (.ref 52), some (.int (nI k)), some (.int (M 100 5)), some (.int (nI w))], [.int 1], (SS b c), (upI I 55 w (M 100 5)), J, 0, 0)
    refine r_iret okX10_stop rfl rfl (by decide +kernel) (Nat.le_refl _) (Nat.le_refl _) ?_
    exact ⟨by unfold lifB; rw [he]; rfl, rfl, by unfold stoG; rw [he], rfl⟩
  · have h9 : (nI w) = ((-1) : Int32) := Classical.not_not.mp h90
    exact absurd h9 (nI_m1 (by omega))
theorem g_stop (γ : GE) {b c : Bool} {I M : AI} {J : AJ} (hO : OWarG I M J) (hI : MWar M) (hD : WDis M) {k : Nat} (hk : k < 8) {x : Int32} (hx : x = M 100 5) : Ct γ mX10_stop 1 0 0 [.ref 52, .int (nI k), .int x] (SS b c) I J (rI (bi (lifB M (nI k))) (SS b c) (stoG I M (nI k)) J) := by
  subst hx
  cases he : thr M (nI k) (M 100 5) with
  | none => exact g_stop0 γ hO hI hD hk he
  | some w => exact g_stop1 γ hO hI hD hk he
theorem g_issue1 (γ : GE) {b c : Bool} {I M : AI} {J : AJ} (hO : OWarG I M J) (hI : MWar M) (hD : WDis M) {k : Nat} (hk : k < 8) (m : Int32) {f : Nat → Bool} (hs7 : cs J 7 f) {w : Nat} (he : thr M (nI k) (M 100 5) = some w) : Ct γ mX10_issue 3 0 0 [.ref 52, .int (nI k), .int (M 100 5), .int m] (SS b c) I J (fun rt S' I' J' => some (.int (begV M (nI k))) = rt ∧ (SS b c) = S' ∧ IsG I M J k m f I' J') := by
  have eb : bsI (thr M (nI k) (M 100 5)) = nI w := by rw [he]; rfl
  have hw := (thr_lt hI.1 he).1
  have hw2 : w < 200 := by have := (rg_nv hI.1 (by decide)).1; omega
  have cw : (nI w).toNatClampNeg = w := nI_clamp (by omega)
  obtain ⟨e53, e54, e55, e56, e57, l1, l2, l3⟩ := hO.2.1 w hw
  refine ct_of okX10_issue (L := [some (.ref 52), some (.int (nI k)), some (.int (M 100 5)), some (.int m), none]) (Nat.le_of_ble_eq_true rfl) rfl ?_
  refine r_run okX10_issue 3 (cs := []) (σ' := (3, [some (.ref 52), some (.int (nI k)), some (.int (M 100 5)), some (.int m), none], [.int (M 100 5), .int (nI k), .ref 52], (SS b c), I, J, 0, 0)) rfl trivial ?_
  refine r_callV okX10_issue okX10_current [.int (nI k), .int (M 100 5)] [] 52 rfl rfl rfl kkX10_current rfl rfl (by decide) rfl rfl rfl (by decide) ⟨Nat.le_refl _, Nat.le_refl _⟩ (Nat.le_of_ble_eq_true rfl) (g_current γ hO hI hD hk rfl) (fun v1 S1 I1 J1 hp => ?_)
  obtain ⟨rfl, rfl, rfl, rfl⟩ := hp
  show Rj _ _ _ _ _ _ (6, [some (.ref 52), some (.int (nI k)), some (.int (M 100 5)), some (.int m), none], [.int (bsI (thr M (nI k) (M 100 5)))], (SS b c), I, J, 0, 0)
  simp only [eb]
  show Rj _ _ _ _ _ _ (6, [some (.ref 52), some (.int (nI k)), some (.int (M 100 5)), some (.int m), none], [.int (nI w)], (SS b c), I, J, 0, 0)
  refine r_run okX10_issue 3 (cs := []) (σ' := (11, [some (.ref 52), some (.int (nI k)), some (.int (M 100 5)), some (.int m), some (.int (nI w))], [.int (-1), .int (nI w)], (SS b c), I, J, 0, 0)) rfl trivial ?_
  refine r_icmp okX10_issue rfl (fun (h11 : (nI w) = ((-1) : Int32)) => ?_) (fun (h11 : ¬ (nI w) = ((-1) : Int32)) => ?_)
  · exact absurd h11 (nI_m1 (by omega))
  · refine r_run okX10_issue 10 (cs := [vp_in (nI w) 200]) (σ' := (30, [some (.ref 52), some (.int (nI k)), some (.int (M 100 5)), some (.int m), some (.int (nI w))], [.int ((M 100 5) + m), .int (I 55 ((nI w).toNatClampNeg)), .int (nI w), .ref 55], (SS b c), I, J, 0, 0)) rfl ⟨(vin hw2 (by decide)), trivial⟩ ?_
    simp only [cw, e55]
    show Rj _ _ _ _ _ _ (30, [some (.ref 52), some (.int (nI k)), some (.int (M 100 5)), some (.int m), some (.int (nI w))], [.int ((M 100 5) + m), .int (M 129 w), .int (nI w), .ref 55], (SS b c), I, J, 0, 0)
    refine r_mmax okX10_issue rfl rfl ⟨Nat.le_refl _, Nat.le_refl _⟩ (Nat.le_of_ble_eq_true rfl) ?_
    show Rj _ _ _ _ _ _ (33, [some (.ref 52), some (.int (nI k)), some (.int (M 100 5)), some (.int m), some (.int (nI w))], [.int (if (M 129 w) < ((M 100 5) + m) then ((M 100 5) + m) else (M 129 w)), .int (nI w), .ref 55], (SS b c), I, J, 0, 0)
    refine r_run okX10_issue 2 (cs := [vp_in (nI w) 200]) (σ' := (36, [some (.ref 52), some (.int (nI k)), some (.int (M 100 5)), some (.int m), some (.int (nI w))], [.int (nI w)], (SS b c), (upI I 55 ((nI w).toNatClampNeg) (if (M 129 w) < ((M 100 5) + m) then ((M 100 5) + m) else (M 129 w))), J, 0, 0)) rfl ⟨(vin hw2 (by decide)), trivial⟩ ?_
    simp only [cw]
    show Rj _ _ _ _ _ _ (36, [some (.ref 52), some (.int (nI k)), some (.int (M 100 5)), some (.int m), some (.int (nI w))], [.int (nI w)], (SS b c), (upI I 55 w (if (M 129 w) < ((M 100 5) + m) then ((M 100 5) + m) else (M 129 w))), J, 0, 0)
    refine r_iret okX10_issue rfl rfl rfl (Nat.le_refl _) (Nat.le_refl _) ?_
    refine ⟨by unfold begV; rw [he], rfl, ?_⟩
    unfold IsG
    rw [he]
    exact ⟨rfl, rfl⟩
theorem g_issue0 (γ : GE) {b c : Bool} {I M : AI} {J : AJ} (hO : OWarG I M J) (hI : MWar M) (hD : WDis M) {k : Nat} (hk : k < 8) (m : Int32) {f : Nat → Bool} (hs7 : cs J 7 f) (he : thr M (nI k) (M 100 5) = none) : Ct γ mX10_issue 3 0 0 [.ref 52, .int (nI k), .int (M 100 5), .int m] (SS b c) I J (fun rt S' I' J' => some (.int (begV M (nI k))) = rt ∧ (SS b c) = S' ∧ IsG I M J k m f I' J') := by
  have eb : bsI (thr M (nI k) (M 100 5)) = -1 := by rw [he]; rfl
  obtain ⟨n, hn, en⟩ := hI.1
  have e11 := hO.1.trans en
  have epm : (nI n) + 1 - 1 = nI n := by rw [nI_eq1]; exact nI_pred n
  refine ct_of okX10_issue (L := [some (.ref 52), some (.int (nI k)), some (.int (M 100 5)), some (.int m), none]) (Nat.le_of_ble_eq_true rfl) rfl ?_
  refine r_run okX10_issue 3 (cs := []) (σ' := (3, [some (.ref 52), some (.int (nI k)), some (.int (M 100 5)), some (.int m), none], [.int (M 100 5), .int (nI k), .ref 52], (SS b c), I, J, 0, 0)) rfl trivial ?_
  refine r_callV okX10_issue okX10_current [.int (nI k), .int (M 100 5)] [] 52 rfl rfl rfl kkX10_current rfl rfl (by decide) rfl rfl rfl (by decide) ⟨Nat.le_refl _, Nat.le_refl _⟩ (Nat.le_of_ble_eq_true rfl) (g_current γ hO hI hD hk rfl) (fun v1 S1 I1 J1 hp => ?_)
  obtain ⟨rfl, rfl, rfl, rfl⟩ := hp
  show Rj _ _ _ _ _ _ (6, [some (.ref 52), some (.int (nI k)), some (.int (M 100 5)), some (.int m), none], [.int (bsI (thr M (nI k) (M 100 5)))], (SS b c), I, J, 0, 0)
  simp only [eb]
  show Rj _ _ _ _ _ _ (6, [some (.ref 52), some (.int (nI k)), some (.int (M 100 5)), some (.int m), none], [.int (-1)], (SS b c), I, J, 0, 0)
  refine r_run okX10_issue 3 (cs := []) (σ' := (11, [some (.ref 52), some (.int (nI k)), some (.int (M 100 5)), some (.int m), some (.int (-1))], [.int (-1), .int (-1)], (SS b c), I, J, 0, 0)) rfl trivial ?_
  refine r_icmp okX10_issue rfl (fun (h11 : ((-1) : Int32) = ((-1) : Int32)) => ?_) (fun (h11 : ¬ ((-1) : Int32) = ((-1) : Int32)) => ?_)
  · refine r_run okX10_issue 3 (cs := []) (σ' := (44, [some (.ref 52), some (.int (nI k)), some (.int (M 100 5)), some (.int m), some (.int (-1))], [.int 200, .int (I 52 11)], (SS b c), I, J, 0, 0)) rfl trivial ?_
    simp only [e11]
    show Rj _ _ _ _ _ _ (44, [some (.ref 52), some (.int (nI k)), some (.int (M 100 5)), some (.int m), some (.int (-1))], [.int 200, .int (nI n)], (SS b c), I, J, 0, 0)
    refine r_icmp okX10_issue rfl (fun (h44 : (nI n) < (200 : Int32)) => ?_) (fun (h44 : ¬ (nI n) < (200 : Int32)) => ?_)
    · have hn2 : n < 200 := Nat.lt_of_not_le fun z => absurd h44 (nI_nlt (a := n) (b := 200) z (by omega))
      refine r_run okX10_issue 6 (cs := []) (σ' := (55, [some (.ref 52), some (.int (nI k)), some (.int (M 100 5)), some (.int m), some (.int (-1))], [.int ((M 100 5) + m), .int (M 100 5), .int (nI k), .ref 52], (SS b c), I, J, 0, 0)) rfl trivial ?_
      refine r_callV okX10_issue okX10_open [.int (nI k), .int (M 100 5), .int ((M 100 5) + m)] [] 52 rfl rfl rfl kkX10_open rfl rfl (by decide) rfl rfl rfl (by decide) ⟨Nat.le_refl _, Nat.le_refl _⟩ (Nat.le_of_ble_eq_true rfl) (o_open γ (n := n) hn2 hk e11 hs7 (M 100 5) (M 100 5 + m)) (fun v1 S1 I1 J1 hp => ?_)
      obtain ⟨rfl, rfl, rfl, hop⟩ := hp
      obtain ⟨J3, hJ3⟩ : ∃ z, z = J1 := ⟨_, rfl⟩
      subst hJ3
      show Rj _ _ _ _ _ _ (58, [some (.ref 52), some (.int (nI k)), some (.int (M 100 5)), some (.int m), some (.int (-1))], [], (SS b c), (opnI I n k (M 100 5) (M 100 5 + m)), J3, 0, 0)
      refine r_run okX10_issue 4 (cs := []) (σ' := (64, [some (.ref 52), some (.int (nI k)), some (.int (M 100 5)), some (.int m), some (.int (-1))], [.int (((opnI I n k (M 100 5) (M 100 5 + m)) 52 11) - 1)], (SS b c), (opnI I n k (M 100 5) (M 100 5 + m)), J3, 0, 0)) rfl trivial ?_
      refine r_iret okX10_issue rfl rfl rfl (Nat.le_refl _) (Nat.le_refl _) ?_
      have hne : ¬ M 100 45 = 200 := fun z => absurd (nI_inj (a := n) (b := 200) (by omega) (by decide) (en.symm.trans z)) (by omega)
      refine ⟨by unfold begV; rw [he]; simp only; rw [if_neg hne, en]; show some (Value.int (nI n)) = some (Value.int (nI n + 1 - 1)); rw [epm], rfl, ?_⟩
      unfold IsG
      rw [he]
      refine Or.inr ⟨hne, ?_, ?_⟩
      · rw [en, nv_nI (by omega)]
      · rw [en, nv_nI (by omega)]; exact hop
    · have hn2 : n = 200 := by have := Nat.le_of_not_lt fun z => h44 (nI_lt (a := n) (b := 200) z (by decide)); omega
      refine r_run okX10_issue 1 (cs := []) (σ' := (48, [some (.ref 52), some (.int (nI k)), some (.int (M 100 5)), some (.int m), some (.int (-1))], [.int (-1)], (SS b c), I, J, 0, 0)) rfl trivial ?_
      refine r_iret okX10_issue rfl rfl rfl (Nat.le_refl _) (Nat.le_refl _) ?_
      subst hn2
      refine ⟨by unfold begV; rw [he]; simp only; rw [if_pos (show M 100 45 = 200 from en)], rfl, ?_⟩
      unfold IsG
      rw [he]
      exact Or.inl ⟨en, rfl, rfl⟩
  · exact absurd h11 (by decide)
theorem g_issue (γ : GE) {b c : Bool} {I M : AI} {J : AJ} (hO : OWarG I M J) (hI : MWar M) (hD : WDis M) {k : Nat} (hk : k < 8) (m : Int32) {f : Nat → Bool} (hs7 : cs J 7 f) {x : Int32} (hx : x = M 100 5) : Ct γ mX10_issue 3 0 0 [.ref 52, .int (nI k), .int x, .int m] (SS b c) I J (fun rt S' I' J' => some (.int (begV M (nI k))) = rt ∧ (SS b c) = S' ∧ IsG I M J k m f I' J') := by
  subst hx
  cases he : thr M (nI k) (M 100 5) with
  | none => exact g_issue0 γ hO hI hD hk m hs7 he
  | some w => exact g_issue1 γ hO hI hD hk m hs7 he
