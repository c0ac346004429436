/-! ===== StormOffice: maybe, count, quarrel, paths, missed, box ===== -/
theorem o_locX (γ : GE) {b c : Bool} {I : AI} {J : AJ} {t kn : Nat} (ht : t < 720) (hkn : kn < 301 ∧ kn ≤ nv (I 100 13)) (hB : HBs I J) (hH : OHea I J) {T K : Int32} (eT : T = nI t) (eK : K = nI kn) : Ct γ mX1_locate 4 0 0 [.ref 37, .int T, .int K, .ref 77] (SS b c) I J (fun rt S' I' J' => none = rt ∧ (SS b c) = S' ∧ LoP I J (mayK I kn t) I' J') := by
  subst eT; subst eK; exact o_locate γ ht hkn hB hH
/-- AFTER, by the first kn tellings -/
def aftX (I : AI) (kn t x : Nat) : Bool := if lsmN I kn ≤ nI t then mayK I kn t x else aftK I kn (nv (lsmN I kn)) (nv (lsmN I kn) - t) x
theorem lsm_nat {I : AI} (hT : MTel I) : ∀ n, n ≤ nv (I 100 13) → lsmN I n = -1 ∨ ∃ l, l < 720 ∧ lsmN I n = nI l
  | 0, _ => Or.inl rfl
  | n + 1, h => by
    unfold lsmN
    have ih := lsm_nat hT n (by omega)
    split
    · exact ih
    · split
      · obtain ⟨l, hl, e⟩ := (hT.2 n (by omega)).2.2.1
        exact Or.inr ⟨l, hl, e⟩
      · exact ih
theorem o_aftX (γ : GE) {b c : Bool} {I : AI} {J : AJ} {t kn : Nat} (ht : t < 720) (hkn : kn < 301 ∧ kn ≤ nv (I 100 13)) (hB : HBs I J) (hH : OHea I J) (hkn2 : kn ≤ nv (I 100 13)) {T K : Int32} (eT : T = nI t) (eK : K = nI kn) : Ct γ mX1_locateAfter 4 0 0 [.ref 37, .int T, .int K, .ref 77] (SS b c) I J (fun rt S' I' J' => none = rt ∧ (SS b c) = S' ∧ LoP I J (aftX I kn t) I' J') := by
  subst eT; subst eK
  by_cases hl : nI t < lsmN I kn
  · rcases lsm_nat hB.2.1 kn hkn2 with h | ⟨l, h1, h2⟩
    · rw [h] at hl; exact absurd hl (Int32.not_lt.mpr (m1_le (by omega)))
    · have hlt : t < l := Nat.lt_of_not_le fun q => by rw [h2] at hl; exact absurd hl (nI_nlt q (by omega))
      have e : aftX I kn t = aftK I kn l (l - t) := by
        funext x; unfold aftX; rw [if_neg (Int32.not_le.mpr hl), h2, nv_nI (by omega)]
      rw [e]
      exact o_after2 γ ht hkn hB hH hkn2 h1 h2 hlt
  · have e : aftX I kn t = mayK I kn t := by funext x; unfold aftX; rw [if_pos (Int32.not_lt.mp hl)]
    rw [e]
    exact o_after1 γ ht hkn hB hH hkn2 hl
theorem may_early {I : AI} {k : Int32} {t : Nat} (x : Nat) (h : nI t < I 100 7) : mayB I k t x = false := by rw [mayB_eq, if_pos h]
theorem aftX_eq {I : AI} (hO : OTel I) (hT : MTel I) (hs7 : rg 720 (I 100 7)) (k : Int32) {t : Nat} (ht : t < 720) (x : Nat) : aftX I (knN I k (nv (I 100 13))) t x = aftR I k t x := by
  have hs := kn_sp hO k
  have hl : lastV I k (nv (I 100 13)) = lsmN I (knN I k (nv (I 100 13))) := by
    rw [lastV_kn (fun i hi j hj => (hO.2.2.2 i hi).2 j hj) _ (Nat.le_refl _), Nat.min_eq_right knN_le]
  unfold aftX aftR
  rw [hl]
  by_cases h1 : lsmN I (knN I k (nv (I 100 13))) ≤ nI t
  · rw [if_pos h1, if_pos h1, mayK_eq hs]
  · rw [if_neg h1, if_neg h1, aftK_eq hs]
    by_cases h2 : nI t < I 100 7
    · rw [if_pos h2, may_early x h2]
      rcases lsm_nat hT _ (knN_le (k := k)) with e | ⟨l, e1, e2⟩
      · rw [e] at h1; exact absurd (m1_le (by omega)) h1
      · rw [e2, nv_nI (by omega)]
        have hlt : t < l := Nat.lt_of_not_le fun q => h1 (by rw [e2]; exact nI_le q (by omega))
        rw [show l - t = (l - t - 1) + 1 by omega, aftB, show l - (l - t - 1 + 1) = t by omega, may_early x h2]; rfl
    · rw [if_neg h2]
theorem pthV_kk {I I0 : AI} (h6 : I0 100 6 = I 100 6) (h1 : I0 101 = I 101) (h2 : I0 102 = I 102) (z : Int32) (n : Nat) (F : Nat → Bool) : pthV I0 z n F = pthV I z n F := by
  have ei : ∀ x, in0 I0 z x = in0 I z x := fun x => by unfold in0; rw [h1, h2]
  unfold pthV
  refine sumW_cg fun x _ => ⟨rfl, ?_⟩
  rw [wyN_G, wyN_G, h6, show in0 I0 z = in0 I z from funext ei]
theorem in105 {w : Int32} : inB w 10 105 = cellB (w - 10) := by
  rw [Bool.eq_iff_iff]
  constructor
  · intro h
    have h := inB_t.mp h
    obtain ⟨j, rfl, hj⟩ := nI_ofx (x := w) (Int32.le_trans (by decide) h.1)
    have h1 : 10 ≤ j := Nat.le_of_not_lt fun q => absurd h.1 (nI_ge (a := j) (b := 10) q (by decide))
    have h2 : j ≤ 105 := Nat.le_of_not_lt fun q => absurd h.2 (nI_ge (a := 105) (b := j) q hj)
    rw [show nI j - 10 = nI (j - 10) from pk_sub (b := 10) h1]
    unfold cellB; rw [decide_eq_true_eq]
    exact ⟨nI_pos (by omega), nI_ge (a := j - 10) (b := 96) (by omega) (by decide)⟩
  · intro h
    obtain ⟨j, hj, e⟩ := cell_nat h
    have e2 : w = nI (j + 10) := by
      have : w - 10 + 10 = nI j + 10 := by rw [e]
      rw [Int32.sub_add_cancel] at this
      rw [this]; exact nI_ad j 10
    rw [e2]
    exact inB_t.mpr ⟨nI_le (a := 10) (by omega) (by omega), nI_le (b := 105) (by omega) (by decide)⟩
theorem o_maybe (γ : GE) {b c : Bool} {I : AI} {J : AJ} (hN : ONow I) (hB : HBs I J) (hH : OHea I J) (hn5 : rg 720 (I 100 5)) (t k x : Int32) : Ct γ mX11_maybe 5 0 0 [.ref 0, .int t, .int k, .int x] (SS b c) I J (fun rt S' I' J' => some (.int (mayV I t k x)) = rt ∧ (SS b c) = S' ∧ kI [37] I I' ∧ OHea I' J' ∧ kJ [38, 39, 40, 41, 77] J J') := by
  refine ct_of okX11_maybe (L := [some (.ref 0), some (.int t), some (.int k), some (.int x)]) (Nat.le_of_ble_eq_true rfl) rfl ?_
  refine r_run okX11_maybe 3 (cs := []) (σ' := (5, [some (.ref 0), some (.int t), some (.int k), some (.int x)], [.int 719, .int 0, .int t], (SS b c), I, J, 0, 0)) rfl trivial ?_
  refine r_callS okX11_maybe okX11_within [.int t, .int 0, .int 719] [] rfl rfl rfl kkX11_within rfl rfl (by decide) (by decide) ⟨Nat.le_refl _, Nat.le_refl _⟩ (Nat.le_of_ble_eq_true rfl) (o_win γ t 0 719) (fun v1 S1 I1 J1 hp => ?_)
  obtain ⟨rfl, rfl, rfl, rfl⟩ := hp
  show Rj _ _ _ _ _ _ (8, [some (.ref 0), some (.int t), some (.int k), some (.int x)], [.int (bi (inB t 0 719))], (SS b c), I, J, 0, 0)
  refine r_ifc okX11_maybe rfl (fun (h8 : (bi (inB t 0 719)) = (0 : Int32)) => ?_) (fun (h8 : ¬ (bi (inB t 0 719)) = (0 : Int32)) => ?_)
  · have h8s := bi_0.mp h8
    refine r_run okX11_maybe 1 (cs := []) (σ' := (27, [some (.ref 0), some (.int t), some (.int k), some (.int x)], [.int (-1)], (SS b c), I, J, 0, 0)) rfl trivial ?_
    refine r_iret okX11_maybe rfl rfl rfl (Nat.le_refl _) (Nat.le_refl _) ?_
    exact ⟨by unfold mayV askB; rw [h8s]; rfl, rfl, kI_r, hH, kJ_r⟩
  · have h8s := bi_n0.mp h8
    refine r_run okX11_maybe 2 (cs := []) (σ' := (13, [some (.ref 0), some (.int t), some (.int k), some (.int x)], [.int k, .ref 0], (SS b c), I, J, 0, 0)) rfl trivial ?_
    refine r_callV okX11_maybe okX11_isPast [.int k] [] 0 rfl rfl rfl kkX11_isPast rfl rfl (by decide) rfl rfl rfl (by decide) ⟨Nat.le_refl _, Nat.le_refl _⟩ (Nat.le_of_ble_eq_true rfl) (o_isPast γ hN k) (fun v1 S1 I1 J1 hp => ?_)
    obtain ⟨rfl, rfl, rfl, rfl⟩ := hp
    show Rj _ _ _ _ _ _ (16, [some (.ref 0), some (.int t), some (.int k), some (.int x)], [.int (bi (inB k 0 (I 100 5)))], (SS b c), I, J, 0, 0)
    refine r_ifc okX11_maybe rfl (fun (h16 : (bi (inB k 0 (I 100 5))) = (0 : Int32)) => ?_) (fun (h16 : ¬ (bi (inB k 0 (I 100 5))) = (0 : Int32)) => ?_)
    · have h16s := bi_0.mp h16
      refine r_run okX11_maybe 1 (cs := []) (σ' := (27, [some (.ref 0), some (.int t), some (.int k), some (.int x)], [.int (-1)], (SS b c), I, J, 0, 0)) rfl trivial ?_
      refine r_iret okX11_maybe rfl rfl rfl (Nat.le_refl _) (Nat.le_refl _) ?_
      exact ⟨by unfold mayV askB; rw [h8s, h16s]; rfl, rfl, kI_r, hH, kJ_r⟩
    · have h16s := bi_n0.mp h16
      refine r_run okX11_maybe 1 (cs := []) (σ' := (20, [some (.ref 0), some (.int t), some (.int k), some (.int x)], [.int x], (SS b c), I, J, 0, 0)) rfl trivial ?_
      refine r_callS okX11_maybe okX11_isCell [.int x] [] rfl rfl rfl kkX11_isCell rfl rfl (by decide) (by decide) ⟨Nat.le_refl _, Nat.le_refl _⟩ (Nat.le_of_ble_eq_true rfl) (o_isCell γ x) (fun v1 S1 I1 J1 hp => ?_)
      obtain ⟨rfl, rfl, rfl, rfl⟩ := hp
      show Rj _ _ _ _ _ _ (23, [some (.ref 0), some (.int t), some (.int k), some (.int x)], [.int (bi (cellB x))], (SS b c), I, J, 0, 0)
      refine r_ifc okX11_maybe rfl (fun (h23 : ¬ (bi (cellB x)) = (0 : Int32)) => ?_) (fun h230 => ?_)
      · have h23s := bi_n0.mp h23
        refine r_run okX11_maybe 6 (cs := []) (σ' := (38, [some (.ref 0), some (.int t), some (.int k), some (.int x)], [.int k, .ref 29, .int t, .ref 37], (SS b c), I, J, 0, 0)) rfl trivial ?_
        refine r_callV okX11_maybe okX7_knownAt [.int k] [.int t, .ref 37] 29 rfl rfl rfl kkX7_knownAt rfl rfl (by decide) rfl rfl rfl (by decide) ⟨Nat.le_refl _, Nat.le_refl _⟩ (Nat.le_of_ble_eq_true rfl) (o_knownAt γ hB.1 k hB.2.1) (fun v1 S1 I1 J1 hp => ?_)
        obtain ⟨rfl, rfl, rfl, rfl⟩ := hp
        show Rj _ _ _ _ _ _ (41, [some (.ref 0), some (.int t), some (.int k), some (.int x)], [.int (nI (knN I k (nv (I 100 13)))), .int t, .ref 37], (SS b c), I, J, 0, 0)
        refine r_run okX11_maybe 2 (cs := []) (σ' := (45, [some (.ref 0), some (.int t), some (.int k), some (.int x)], [.ref 77, .int (nI (knN I k (nv (I 100 13)))), .int t, .ref 37], (SS b c), I, J, 0, 0)) rfl trivial ?_
        refine r_callV okX11_maybe okX1_locate [.int t, .int (nI (knN I k (nv (I 100 13)))), .ref 77] [] 37 rfl rfl rfl kkX1_locate rfl rfl (by decide) rfl rfl rfl (by decide) ⟨Nat.le_refl _, Nat.le_refl _⟩ (Nat.le_of_ble_eq_true rfl) (o_locX γ (t := nv t) (kn := (knN I k (nv (I 100 13)))) (Nat.lt_succ_of_le (in_lt (n := 719) h8s rfl (by decide)).1) ⟨kn_lt hB.2.1 k, knN_le⟩ hB hH (in_lt (n := 719) h8s rfl (by decide)).2 rfl) (fun v1 S1 I1 J1 hp => ?_)
        obtain ⟨rfl, rfl, hz, hO2, kz, cz⟩ := hp
        obtain ⟨Iz, eIz⟩ : ∃ z, z = I1 := ⟨_, rfl⟩
        subst eIz
        obtain ⟨Jz, eJz⟩ : ∃ z, z = J1 := ⟨_, rfl⟩
        subst eJz
        show Rj _ _ _ _ _ _ (48, [some (.ref 0), some (.int t), some (.int k), some (.int x)], [], (SS b c), Iz, Jz, 0, 0)
        refine r_run okX11_maybe 3 (cs := []) (σ' := (53, [some (.ref 0), some (.int t), some (.int k), some (.int x)], [.int x, .ref 77], (SS b c), Iz, Jz, 0, 0)) rfl trivial ?_
        refine r_callV okX11_maybe okX0_has [.int x] [] 77 rfl rfl rfl kkX0_has rfl rfl (by decide) rfl rfl rfl (by decide) ⟨Nat.le_refl _, Nat.le_refl _⟩ (Nat.le_of_ble_eq_true rfl) (a_has γ rfl cz (x := nv x) (cell_lt h23s).1 (cell_lt h23s).2) (fun v1 S1 I1 J1 hp => ?_)
        obtain ⟨rfl, rfl, rfl, rfl⟩ := hp
        show Rj _ _ _ _ _ _ (56, [some (.ref 0), some (.int t), some (.int k), some (.int x)], [.int (bi (mayK I (knN I k (nv (I 100 13))) (nv t) (nv x)))], (SS b c), Iz, Jz, 0, 0)
        refine r_ifc okX11_maybe rfl (fun (h56 : (bi (mayK I (knN I k (nv (I 100 13))) (nv t) (nv x))) = (0 : Int32)) => ?_) (fun (h56 : ¬ (bi (mayK I (knN I k (nv (I 100 13))) (nv t) (nv x))) = (0 : Int32)) => ?_)
        · refine r_run okX11_maybe 1 (cs := []) (σ' := (64, [some (.ref 0), some (.int t), some (.int k), some (.int x)], [.int 0], (SS b c), Iz, Jz, 0, 0)) rfl trivial ?_
          refine r_iret okX11_maybe rfl rfl rfl (Nat.le_refl _) (Nat.le_refl _) ?_
          exact ⟨by unfold mayV askB; rw [h8s, h16s, h23s, ← mayK_eq (kn_sp hB.1 k), bi_0.mp h56]; rfl, rfl, hz, hO2, kz⟩
        · refine r_run okX11_maybe 2 (cs := []) (σ' := (64, [some (.ref 0), some (.int t), some (.int k), some (.int x)], [.int 1], (SS b c), Iz, Jz, 0, 0)) rfl trivial ?_
          refine r_iret okX11_maybe rfl rfl rfl (Nat.le_refl _) (Nat.le_refl _) ?_
          exact ⟨by unfold mayV askB; rw [h8s, h16s, h23s, ← mayK_eq (kn_sp hB.1 k), bi_n0.mp h56]; rfl, rfl, hz, hO2, kz⟩
      · have h23 : (bi (cellB x)) = (0 : Int32) := Classical.not_not.mp h230
        have h23s := bi_0.mp h23
        refine r_run okX11_maybe 1 (cs := []) (σ' := (27, [some (.ref 0), some (.int t), some (.int k), some (.int x)], [.int (-1)], (SS b c), I, J, 0, 0)) rfl trivial ?_
        refine r_iret okX11_maybe rfl rfl rfl (Nat.le_refl _) (Nat.le_refl _) ?_
        exact ⟨by unfold mayV askB; rw [h8s, h16s, h23s]; rfl, rfl, kI_r, hH, kJ_r⟩
theorem o_count0 (γ : GE) {b c : Bool} {I : AI} {J : AJ} (hN : ONow I) (hB : HBs I J) (hH : OHea I J) (hn5 : rg 720 (I 100 5)) (t k : Int32) : Ct γ mX11_count 5 0 0 [.ref 0, .int t, .int k, .int 0] (SS b c) I J (fun rt S' I' J' => some (.int (cntV I t k 0)) = rt ∧ (SS b c) = S' ∧ kI [37] I I' ∧ OHea I' J' ∧ kJ [38, 39, 40, 41, 77] J J') := by
  refine ct_of okX11_count (L := [some (.ref 0), some (.int t), some (.int k), some (.int 0), none]) (Nat.le_of_ble_eq_true rfl) rfl ?_
  refine r_run okX11_count 1 (cs := []) (σ' := (1, [some (.ref 0), some (.int t), some (.int k), some (.int 0), none], [.int 0], (SS b c), I, J, 0, 0)) rfl trivial ?_
  refine r_ifc okX11_count rfl (fun (h1 : (0 : Int32) = (0 : Int32)) => ?_) (fun (h1 : ¬ (0 : Int32) = (0 : Int32)) => ?_)
  · refine r_run okX11_count 6 (cs := []) (σ' := (32, [some (.ref 0), some (.int t), some (.int k), some (.int 0), some (.int 1)], [.int 719, .int 0, .int t], (SS b c), I, J, 0, 0)) rfl trivial ?_
    refine r_callS okX11_count okX11_within [.int t, .int 0, .int 719] [] rfl rfl rfl kkX11_within rfl rfl (by decide) (by decide) ⟨Nat.le_refl _, Nat.le_refl _⟩ (Nat.le_of_ble_eq_true rfl) (o_win γ t 0 719) (fun v1 S1 I1 J1 hp => ?_)
    obtain ⟨rfl, rfl, rfl, rfl⟩ := hp
    show Rj _ _ _ _ _ _ (35, [some (.ref 0), some (.int t), some (.int k), some (.int 0), some (.int 1)], [.int (bi (inB t 0 719))], (SS b c), I, J, 0, 0)
    refine r_ifc okX11_count rfl (fun (h35 : (bi (inB t 0 719)) = (0 : Int32)) => ?_) (fun (h35 : ¬ (bi (inB t 0 719)) = (0 : Int32)) => ?_)
    · have h35s := bi_0.mp h35
      refine r_run okX11_count 1 (cs := []) (σ' := (52, [some (.ref 0), some (.int t), some (.int k), some (.int 0), some (.int 1)], [.int (-1)], (SS b c), I, J, 0, 0)) rfl trivial ?_
      refine r_iret okX11_count rfl rfl rfl (Nat.le_refl _) (Nat.le_refl _) ?_
      exact ⟨by unfold cntV askB; rw [h35s]; rfl, rfl, kI_r, hH, kJ_r⟩
    · have h35s := bi_n0.mp h35
      refine r_run okX11_count 2 (cs := []) (σ' := (40, [some (.ref 0), some (.int t), some (.int k), some (.int 0), some (.int 1)], [.int k, .ref 0], (SS b c), I, J, 0, 0)) rfl trivial ?_
      refine r_callV okX11_count okX11_isPast [.int k] [] 0 rfl rfl rfl kkX11_isPast rfl rfl (by decide) rfl rfl rfl (by decide) ⟨Nat.le_refl _, Nat.le_refl _⟩ (Nat.le_of_ble_eq_true rfl) (o_isPast γ hN k) (fun v1 S1 I1 J1 hp => ?_)
      obtain ⟨rfl, rfl, rfl, rfl⟩ := hp
      show Rj _ _ _ _ _ _ (43, [some (.ref 0), some (.int t), some (.int k), some (.int 0), some (.int 1)], [.int (bi (inB k 0 (I 100 5)))], (SS b c), I, J, 0, 0)
      refine r_ifc okX11_count rfl (fun (h43 : (bi (inB k 0 (I 100 5))) = (0 : Int32)) => ?_) (fun (h43 : ¬ (bi (inB k 0 (I 100 5))) = (0 : Int32)) => ?_)
      · have h43s := bi_0.mp h43
        refine r_run okX11_count 1 (cs := []) (σ' := (52, [some (.ref 0), some (.int t), some (.int k), some (.int 0), some (.int 1)], [.int (-1)], (SS b c), I, J, 0, 0)) rfl trivial ?_
        refine r_iret okX11_count rfl rfl rfl (Nat.le_refl _) (Nat.le_refl _) ?_
        exact ⟨by unfold cntV askB; rw [h35s, h43s]; rfl, rfl, kI_r, hH, kJ_r⟩
      · have h43s := bi_n0.mp h43
        refine r_run okX11_count 1 (cs := []) (σ' := (48, [some (.ref 0), some (.int t), some (.int k), some (.int 0), some (.int 1)], [.int 1], (SS b c), I, J, 0, 0)) rfl trivial ?_
        refine r_ifc okX11_count rfl (fun (h48 : ¬ (1 : Int32) = (0 : Int32)) => ?_) (fun h480 => ?_)
        · refine r_run okX11_count 1 (cs := []) (σ' := (54, [some (.ref 0), some (.int t), some (.int k), some (.int 0), some (.int 1)], [.int 0], (SS b c), I, J, 0, 0)) rfl trivial ?_
          refine r_ifc okX11_count rfl (fun (h54 : ¬ (0 : Int32) = (0 : Int32)) => ?_) (fun h540 => ?_)
          · exact absurd h54 (by decide)
          · have h54 : (0 : Int32) = (0 : Int32) := Classical.not_not.mp h540
            refine r_run okX11_count 6 (cs := []) (σ' := (67, [some (.ref 0), some (.int t), some (.int k), some (.int 0), some (.int 1)], [.int k, .ref 29, .int t, .ref 37], (SS b c), I, J, 0, 0)) rfl trivial ?_
            refine r_callV okX11_count okX7_knownAt [.int k] [.int t, .ref 37] 29 rfl rfl rfl kkX7_knownAt rfl rfl (by decide) rfl rfl rfl (by decide) ⟨Nat.le_refl _, Nat.le_refl _⟩ (Nat.le_of_ble_eq_true rfl) (o_knownAt γ hB.1 k hB.2.1) (fun v1 S1 I1 J1 hp => ?_)
            obtain ⟨rfl, rfl, rfl, rfl⟩ := hp
            show Rj _ _ _ _ _ _ (70, [some (.ref 0), some (.int t), some (.int k), some (.int 0), some (.int 1)], [.int (nI (knN I k (nv (I 100 13)))), .int t, .ref 37], (SS b c), I, J, 0, 0)
            refine r_run okX11_count 2 (cs := []) (σ' := (74, [some (.ref 0), some (.int t), some (.int k), some (.int 0), some (.int 1)], [.ref 77, .int (nI (knN I k (nv (I 100 13)))), .int t, .ref 37], (SS b c), I, J, 0, 0)) rfl trivial ?_
            refine r_callV okX11_count okX1_locate [.int t, .int (nI (knN I k (nv (I 100 13)))), .ref 77] [] 37 rfl rfl rfl kkX1_locate rfl rfl (by decide) rfl rfl rfl (by decide) ⟨Nat.le_refl _, Nat.le_refl _⟩ (Nat.le_of_ble_eq_true rfl) (o_locX γ (t := nv t) (kn := (knN I k (nv (I 100 13)))) (Nat.lt_succ_of_le (in_lt (n := 719) h35s rfl (by decide)).1) ⟨kn_lt hB.2.1 k, knN_le⟩ hB hH (in_lt (n := 719) h35s rfl (by decide)).2 rfl) (fun v1 S1 I1 J1 hp => ?_)
            obtain ⟨rfl, rfl, hz, hO2, kz, cz⟩ := hp
            obtain ⟨Iz, eIz⟩ : ∃ z, z = I1 := ⟨_, rfl⟩
            subst eIz
            obtain ⟨Jz, eJz⟩ : ∃ z, z = J1 := ⟨_, rfl⟩
            subst eJz
            show Rj _ _ _ _ _ _ (77, [some (.ref 0), some (.int t), some (.int k), some (.int 0), some (.int 1)], [], (SS b c), Iz, Jz, 0, 0)
            refine r_run okX11_count 2 (cs := []) (σ' := (81, [some (.ref 0), some (.int t), some (.int k), some (.int 0), some (.int 1)], [.ref 77], (SS b c), Iz, Jz, 0, 0)) rfl trivial ?_
            refine r_callV okX11_count okX0_size [] [] 77 rfl rfl rfl kkX0_size rfl rfl (by decide) rfl rfl rfl (by decide) ⟨Nat.le_refl _, Nat.le_refl _⟩ (Nat.le_of_ble_eq_true rfl) (a_size γ rfl cz) (fun v1 S1 I1 J1 hp => ?_)
            obtain ⟨rfl, rfl, rfl, rfl⟩ := hp
            show Rj _ _ _ _ _ _ (84, [some (.ref 0), some (.int t), some (.int k), some (.int 0), some (.int 1)], [.int (nI (cnt (mayK I (knN I k (nv (I 100 13))) (nv t)) 96))], (SS b c), Iz, Jz, 0, 0)
            refine r_iret okX11_count rfl rfl rfl (Nat.le_refl _) (Nat.le_refl _) ?_
            exact ⟨by unfold cntV askB; rw [h35s, h43s, show mayB I k (nv t) = mayK I (knN I k (nv (I 100 13))) (nv t) from funext fun y => (mayK_eq (kn_sp hB.1 k) _ y).symm]; rfl, rfl, hz, hO2, kz⟩
        · have h48 : (1 : Int32) = (0 : Int32) := Classical.not_not.mp h480
          exact absurd h48 (by decide)
  · exact absurd h1 (by decide)
theorem o_count1 (γ : GE) {b c : Bool} {I : AI} {J : AJ} (hN : ONow I) (hB : HBs I J) (hH : OHea I J) (hn5 : rg 720 (I 100 5)) (t k : Int32) : Ct γ mX11_count 5 0 0 [.ref 0, .int t, .int k, .int 1] (SS b c) I J (fun rt S' I' J' => some (.int (cntV I t k 1)) = rt ∧ (SS b c) = S' ∧ kI [37] I I' ∧ OHea I' J' ∧ kJ [38, 39, 40, 41, 77] J J') := by
  refine ct_of okX11_count (L := [some (.ref 0), some (.int t), some (.int k), some (.int 1), none]) (Nat.le_of_ble_eq_true rfl) rfl ?_
  refine r_run okX11_count 1 (cs := []) (σ' := (1, [some (.ref 0), some (.int t), some (.int k), some (.int 1), none], [.int 1], (SS b c), I, J, 0, 0)) rfl trivial ?_
  refine r_ifc okX11_count rfl (fun (h1 : (1 : Int32) = (0 : Int32)) => ?_) (fun (h1 : ¬ (1 : Int32) = (0 : Int32)) => ?_)
  · exact absurd h1 (by decide)
  · refine r_run okX11_count 2 (cs := []) (σ' := (6, [some (.ref 0), some (.int t), some (.int k), some (.int 1), none], [.int 1, .int 1], (SS b c), I, J, 0, 0)) rfl trivial ?_
    refine r_icmp okX11_count rfl (fun (h6 : (1 : Int32) = (1 : Int32)) => ?_) (fun (h6 : ¬ (1 : Int32) = (1 : Int32)) => ?_)
    · refine r_run okX11_count 6 (cs := []) (σ' := (32, [some (.ref 0), some (.int t), some (.int k), some (.int 1), some (.int 1)], [.int 719, .int 0, .int t], (SS b c), I, J, 0, 0)) rfl trivial ?_
      refine r_callS okX11_count okX11_within [.int t, .int 0, .int 719] [] rfl rfl rfl kkX11_within rfl rfl (by decide) (by decide) ⟨Nat.le_refl _, Nat.le_refl _⟩ (Nat.le_of_ble_eq_true rfl) (o_win γ t 0 719) (fun v1 S1 I1 J1 hp => ?_)
      obtain ⟨rfl, rfl, rfl, rfl⟩ := hp
      show Rj _ _ _ _ _ _ (35, [some (.ref 0), some (.int t), some (.int k), some (.int 1), some (.int 1)], [.int (bi (inB t 0 719))], (SS b c), I, J, 0, 0)
      refine r_ifc okX11_count rfl (fun (h35 : (bi (inB t 0 719)) = (0 : Int32)) => ?_) (fun (h35 : ¬ (bi (inB t 0 719)) = (0 : Int32)) => ?_)
      · have h35s := bi_0.mp h35
        refine r_run okX11_count 1 (cs := []) (σ' := (52, [some (.ref 0), some (.int t), some (.int k), some (.int 1), some (.int 1)], [.int (-1)], (SS b c), I, J, 0, 0)) rfl trivial ?_
        refine r_iret okX11_count rfl rfl rfl (Nat.le_refl _) (Nat.le_refl _) ?_
        exact ⟨by unfold cntV askB; rw [h35s]; rfl, rfl, kI_r, hH, kJ_r⟩
      · have h35s := bi_n0.mp h35
        refine r_run okX11_count 2 (cs := []) (σ' := (40, [some (.ref 0), some (.int t), some (.int k), some (.int 1), some (.int 1)], [.int k, .ref 0], (SS b c), I, J, 0, 0)) rfl trivial ?_
        refine r_callV okX11_count okX11_isPast [.int k] [] 0 rfl rfl rfl kkX11_isPast rfl rfl (by decide) rfl rfl rfl (by decide) ⟨Nat.le_refl _, Nat.le_refl _⟩ (Nat.le_of_ble_eq_true rfl) (o_isPast γ hN k) (fun v1 S1 I1 J1 hp => ?_)
        obtain ⟨rfl, rfl, rfl, rfl⟩ := hp
        show Rj _ _ _ _ _ _ (43, [some (.ref 0), some (.int t), some (.int k), some (.int 1), some (.int 1)], [.int (bi (inB k 0 (I 100 5)))], (SS b c), I, J, 0, 0)
        refine r_ifc okX11_count rfl (fun (h43 : (bi (inB k 0 (I 100 5))) = (0 : Int32)) => ?_) (fun (h43 : ¬ (bi (inB k 0 (I 100 5))) = (0 : Int32)) => ?_)
        · have h43s := bi_0.mp h43
          refine r_run okX11_count 1 (cs := []) (σ' := (52, [some (.ref 0), some (.int t), some (.int k), some (.int 1), some (.int 1)], [.int (-1)], (SS b c), I, J, 0, 0)) rfl trivial ?_
          refine r_iret okX11_count rfl rfl rfl (Nat.le_refl _) (Nat.le_refl _) ?_
          exact ⟨by unfold cntV askB; rw [h35s, h43s]; rfl, rfl, kI_r, hH, kJ_r⟩
        · have h43s := bi_n0.mp h43
          refine r_run okX11_count 1 (cs := []) (σ' := (48, [some (.ref 0), some (.int t), some (.int k), some (.int 1), some (.int 1)], [.int 1], (SS b c), I, J, 0, 0)) rfl trivial ?_
          refine r_ifc okX11_count rfl (fun (h48 : ¬ (1 : Int32) = (0 : Int32)) => ?_) (fun h480 => ?_)
          · refine r_run okX11_count 1 (cs := []) (σ' := (54, [some (.ref 0), some (.int t), some (.int k), some (.int 1), some (.int 1)], [.int 1], (SS b c), I, J, 0, 0)) rfl trivial ?_
            refine r_ifc okX11_count rfl (fun (h54 : ¬ (1 : Int32) = (0 : Int32)) => ?_) (fun h540 => ?_)
            · refine r_run okX11_count 6 (cs := []) (σ' := (95, [some (.ref 0), some (.int t), some (.int k), some (.int 1), some (.int 1)], [.int k, .ref 29, .int t, .ref 37], (SS b c), I, J, 0, 0)) rfl trivial ?_
              refine r_callV okX11_count okX7_knownAt [.int k] [.int t, .ref 37] 29 rfl rfl rfl kkX7_knownAt rfl rfl (by decide) rfl rfl rfl (by decide) ⟨Nat.le_refl _, Nat.le_refl _⟩ (Nat.le_of_ble_eq_true rfl) (o_knownAt γ hB.1 k hB.2.1) (fun v1 S1 I1 J1 hp => ?_)
              obtain ⟨rfl, rfl, rfl, rfl⟩ := hp
              show Rj _ _ _ _ _ _ (98, [some (.ref 0), some (.int t), some (.int k), some (.int 1), some (.int 1)], [.int (nI (knN I k (nv (I 100 13)))), .int t, .ref 37], (SS b c), I, J, 0, 0)
              refine r_run okX11_count 2 (cs := []) (σ' := (102, [some (.ref 0), some (.int t), some (.int k), some (.int 1), some (.int 1)], [.ref 77, .int (nI (knN I k (nv (I 100 13)))), .int t, .ref 37], (SS b c), I, J, 0, 0)) rfl trivial ?_
              refine r_callV okX11_count okX1_locateAfter [.int t, .int (nI (knN I k (nv (I 100 13)))), .ref 77] [] 37 rfl rfl rfl kkX1_locateAfter rfl rfl (by decide) rfl rfl rfl (by decide) ⟨Nat.le_refl _, Nat.le_refl _⟩ (Nat.le_of_ble_eq_true rfl) (o_aftX γ (t := nv t) (kn := (knN I k (nv (I 100 13)))) (Nat.lt_succ_of_le (in_lt (n := 719) h35s rfl (by decide)).1) ⟨kn_lt hB.2.1 k, knN_le⟩ hB hH knN_le (in_lt (n := 719) h35s rfl (by decide)).2 rfl) (fun v1 S1 I1 J1 hp => ?_)
              obtain ⟨rfl, rfl, hz, hO2, kz, cz⟩ := hp
              obtain ⟨Iz, eIz⟩ : ∃ z, z = I1 := ⟨_, rfl⟩
              subst eIz
              obtain ⟨Jz, eJz⟩ : ∃ z, z = J1 := ⟨_, rfl⟩
              subst eJz
              show Rj _ _ _ _ _ _ (105, [some (.ref 0), some (.int t), some (.int k), some (.int 1), some (.int 1)], [], (SS b c), Iz, Jz, 0, 0)
              refine r_run okX11_count 2 (cs := []) (σ' := (107, [some (.ref 0), some (.int t), some (.int k), some (.int 1), some (.int 1)], [.int 1, .int 1], (SS b c), Iz, Jz, 0, 0)) rfl trivial ?_
              refine r_icmp okX11_count rfl (fun (h107 : ¬ (1 : Int32) = (1 : Int32)) => ?_) (fun h1070 => ?_)
              · exact absurd h107 (by decide)
              · have h107 : (1 : Int32) = (1 : Int32) := Classical.not_not.mp h1070
                refine r_run okX11_count 2 (cs := []) (σ' := (114, [some (.ref 0), some (.int t), some (.int k), some (.int 1), some (.int 1)], [.ref 77], (SS b c), Iz, Jz, 0, 0)) rfl trivial ?_
                refine r_callV okX11_count okX0_size [] [] 77 rfl rfl rfl kkX0_size rfl rfl (by decide) rfl rfl rfl (by decide) ⟨Nat.le_refl _, Nat.le_refl _⟩ (Nat.le_of_ble_eq_true rfl) (a_size γ rfl cz) (fun v1 S1 I1 J1 hp => ?_)
                obtain ⟨rfl, rfl, rfl, rfl⟩ := hp
                show Rj _ _ _ _ _ _ (117, [some (.ref 0), some (.int t), some (.int k), some (.int 1), some (.int 1)], [.int (nI (cnt (aftX I (knN I k (nv (I 100 13))) (nv t)) 96))], (SS b c), Iz, Jz, 0, 0)
                refine r_iret okX11_count rfl rfl rfl (Nat.le_refl _) (Nat.le_refl _) ?_
                exact ⟨by unfold cntV askB; rw [h35s, h43s, show aftR I k (nv t) = aftX I (knN I k (nv (I 100 13))) (nv t) from funext fun y => (aftX_eq hB.1 hB.2.1 hB.2.2.2.2.2 k (Nat.lt_succ_of_le (in_lt (n := 719) h35s rfl (by decide)).1) y).symm]; rfl, rfl, hz, hO2, kz⟩
            · have h54 : (1 : Int32) = (0 : Int32) := Classical.not_not.mp h540
              exact absurd h54 (by decide)
          · have h48 : (1 : Int32) = (0 : Int32) := Classical.not_not.mp h480
            exact absurd h48 (by decide)
    · exact absurd h6 (by decide)
theorem o_countx (γ : GE) {b c : Bool} {I : AI} {J : AJ} (hN : ONow I) (hB : HBs I J) (hH : OHea I J) (hn5 : rg 720 (I 100 5)) (t k : Int32) (w : Int32) (w0 : ¬ w = 0) (w1 : ¬ w = 1) : Ct γ mX11_count 5 0 0 [.ref 0, .int t, .int k, .int w] (SS b c) I J (fun rt S' I' J' => some (.int (cntV I t k w)) = rt ∧ (SS b c) = S' ∧ kI [37] I I' ∧ OHea I' J' ∧ kJ [38, 39, 40, 41, 77] J J') := by
  refine ct_of okX11_count (L := [some (.ref 0), some (.int t), some (.int k), some (.int w), none]) (Nat.le_of_ble_eq_true rfl) rfl ?_
  refine r_run okX11_count 1 (cs := []) (σ' := (1, [some (.ref 0), some (.int t), some (.int k), some (.int w), none], [.int w], (SS b c), I, J, 0, 0)) rfl trivial ?_
  refine r_ifc okX11_count rfl (fun (h1 : w = (0 : Int32)) => ?_) (fun (h1 : ¬ w = (0 : Int32)) => ?_)
  · exact absurd h1 w0
  · refine r_run okX11_count 2 (cs := []) (σ' := (6, [some (.ref 0), some (.int t), some (.int k), some (.int w), none], [.int 1, .int w], (SS b c), I, J, 0, 0)) rfl trivial ?_
    refine r_icmp okX11_count rfl (fun (h6 : w = (1 : Int32)) => ?_) (fun (h6 : ¬ w = (1 : Int32)) => ?_)
    · exact absurd h6 w1
    · refine r_run okX11_count 3 (cs := []) (σ' := (14, [some (.ref 0), some (.int t), some (.int k), some (.int w), none], [.int 105, .int 10, .int w], (SS b c), I, J, 0, 0)) rfl trivial ?_
      refine r_callS okX11_count okX11_within [.int w, .int 10, .int 105] [] rfl rfl rfl kkX11_within rfl rfl (by decide) (by decide) ⟨Nat.le_refl _, Nat.le_refl _⟩ (Nat.le_of_ble_eq_true rfl) (o_win γ w 10 105) (fun v1 S1 I1 J1 hp => ?_)
      obtain ⟨rfl, rfl, rfl, rfl⟩ := hp
      show Rj _ _ _ _ _ _ (17, [some (.ref 0), some (.int t), some (.int k), some (.int w), none], [.int (bi (inB w 10 105))], (SS b c), I, J, 0, 0)
      refine r_ifc okX11_count rfl (fun (h17 : (bi (inB w 10 105)) = (0 : Int32)) => ?_) (fun (h17 : ¬ (bi (inB w 10 105)) = (0 : Int32)) => ?_)
      · have h17s := bi_0.mp h17
        refine r_run okX11_count 5 (cs := []) (σ' := (32, [some (.ref 0), some (.int t), some (.int k), some (.int w), some (.int 0)], [.int 719, .int 0, .int t], (SS b c), I, J, 0, 0)) rfl trivial ?_
        refine r_callS okX11_count okX11_within [.int t, .int 0, .int 719] [] rfl rfl rfl kkX11_within rfl rfl (by decide) (by decide) ⟨Nat.le_refl _, Nat.le_refl _⟩ (Nat.le_of_ble_eq_true rfl) (o_win γ t 0 719) (fun v1 S1 I1 J1 hp => ?_)
        obtain ⟨rfl, rfl, rfl, rfl⟩ := hp
        show Rj _ _ _ _ _ _ (35, [some (.ref 0), some (.int t), some (.int k), some (.int w), some (.int 0)], [.int (bi (inB t 0 719))], (SS b c), I, J, 0, 0)
        refine r_ifc okX11_count rfl (fun (h35 : (bi (inB t 0 719)) = (0 : Int32)) => ?_) (fun (h35 : ¬ (bi (inB t 0 719)) = (0 : Int32)) => ?_)
        · have h35s := bi_0.mp h35
          refine r_run okX11_count 1 (cs := []) (σ' := (52, [some (.ref 0), some (.int t), some (.int k), some (.int w), some (.int 0)], [.int (-1)], (SS b c), I, J, 0, 0)) rfl trivial ?_
          refine r_iret okX11_count rfl rfl rfl (Nat.le_refl _) (Nat.le_refl _) ?_
          exact ⟨by unfold cntV askB; rw [h35s]; rfl, rfl, kI_r, hH, kJ_r⟩
        · have h35s := bi_n0.mp h35
          refine r_run okX11_count 2 (cs := []) (σ' := (40, [some (.ref 0), some (.int t), some (.int k), some (.int w), some (.int 0)], [.int k, .ref 0], (SS b c), I, J, 0, 0)) rfl trivial ?_
          refine r_callV okX11_count okX11_isPast [.int k] [] 0 rfl rfl rfl kkX11_isPast rfl rfl (by decide) rfl rfl rfl (by decide) ⟨Nat.le_refl _, Nat.le_refl _⟩ (Nat.le_of_ble_eq_true rfl) (o_isPast γ hN k) (fun v1 S1 I1 J1 hp => ?_)
          obtain ⟨rfl, rfl, rfl, rfl⟩ := hp
          show Rj _ _ _ _ _ _ (43, [some (.ref 0), some (.int t), some (.int k), some (.int w), some (.int 0)], [.int (bi (inB k 0 (I 100 5)))], (SS b c), I, J, 0, 0)
          refine r_ifc okX11_count rfl (fun (h43 : (bi (inB k 0 (I 100 5))) = (0 : Int32)) => ?_) (fun (h43 : ¬ (bi (inB k 0 (I 100 5))) = (0 : Int32)) => ?_)
          · have h43s := bi_0.mp h43
            refine r_run okX11_count 1 (cs := []) (σ' := (52, [some (.ref 0), some (.int t), some (.int k), some (.int w), some (.int 0)], [.int (-1)], (SS b c), I, J, 0, 0)) rfl trivial ?_
            refine r_iret okX11_count rfl rfl rfl (Nat.le_refl _) (Nat.le_refl _) ?_
            exact ⟨by unfold cntV askB; rw [h35s, h43s]; rfl, rfl, kI_r, hH, kJ_r⟩
          · have h43s := bi_n0.mp h43
            refine r_run okX11_count 1 (cs := []) (σ' := (48, [some (.ref 0), some (.int t), some (.int k), some (.int w), some (.int 0)], [.int 0], (SS b c), I, J, 0, 0)) rfl trivial ?_
            refine r_ifc okX11_count rfl (fun (h48 : ¬ (0 : Int32) = (0 : Int32)) => ?_) (fun h480 => ?_)
            · exact absurd h48 (by decide)
            · have h48 : (0 : Int32) = (0 : Int32) := Classical.not_not.mp h480
              refine r_run okX11_count 1 (cs := []) (σ' := (52, [some (.ref 0), some (.int t), some (.int k), some (.int w), some (.int 0)], [.int (-1)], (SS b c), I, J, 0, 0)) rfl trivial ?_
              refine r_iret okX11_count rfl rfl rfl (Nat.le_refl _) (Nat.le_refl _) ?_
              exact ⟨by unfold cntV askB; rw [h35s, h43s]; simp [w0, w1, in105.symm.trans h17s], rfl, kI_r, hH, kJ_r⟩
      · have h17s := bi_n0.mp h17
        refine r_run okX11_count 6 (cs := []) (σ' := (32, [some (.ref 0), some (.int t), some (.int k), some (.int w), some (.int 1)], [.int 719, .int 0, .int t], (SS b c), I, J, 0, 0)) rfl trivial ?_
        refine r_callS okX11_count okX11_within [.int t, .int 0, .int 719] [] rfl rfl rfl kkX11_within rfl rfl (by decide) (by decide) ⟨Nat.le_refl _, Nat.le_refl _⟩ (Nat.le_of_ble_eq_true rfl) (o_win γ t 0 719) (fun v1 S1 I1 J1 hp => ?_)
        obtain ⟨rfl, rfl, rfl, rfl⟩ := hp
        show Rj _ _ _ _ _ _ (35, [some (.ref 0), some (.int t), some (.int k), some (.int w), some (.int 1)], [.int (bi (inB t 0 719))], (SS b c), I, J, 0, 0)
        refine r_ifc okX11_count rfl (fun (h35_1 : (bi (inB t 0 719)) = (0 : Int32)) => ?_) (fun (h35_1 : ¬ (bi (inB t 0 719)) = (0 : Int32)) => ?_)
        · have h35_1s := bi_0.mp h35_1
          refine r_run okX11_count 1 (cs := []) (σ' := (52, [some (.ref 0), some (.int t), some (.int k), some (.int w), some (.int 1)], [.int (-1)], (SS b c), I, J, 0, 0)) rfl trivial ?_
          refine r_iret okX11_count rfl rfl rfl (Nat.le_refl _) (Nat.le_refl _) ?_
          exact ⟨by unfold cntV askB; rw [h35_1s]; rfl, rfl, kI_r, hH, kJ_r⟩
        · have h35_1s := bi_n0.mp h35_1
          refine r_run okX11_count 2 (cs := []) (σ' := (40, [some (.ref 0), some (.int t), some (.int k), some (.int w), some (.int 1)], [.int k, .ref 0], (SS b c), I, J, 0, 0)) rfl trivial ?_
          refine r_callV okX11_count okX11_isPast [.int k] [] 0 rfl rfl rfl kkX11_isPast rfl rfl (by decide) rfl rfl rfl (by decide) ⟨Nat.le_refl _, Nat.le_refl _⟩ (Nat.le_of_ble_eq_true rfl) (o_isPast γ hN k) (fun v1 S1 I1 J1 hp => ?_)
          obtain ⟨rfl, rfl, rfl, rfl⟩ := hp
          show Rj _ _ _ _ _ _ (43, [some (.ref 0), some (.int t), some (.int k), some (.int w), some (.int 1)], [.int (bi (inB k 0 (I 100 5)))], (SS b c), I, J, 0, 0)
          refine r_ifc okX11_count rfl (fun (h43_1 : (bi (inB k 0 (I 100 5))) = (0 : Int32)) => ?_) (fun (h43_1 : ¬ (bi (inB k 0 (I 100 5))) = (0 : Int32)) => ?_)
          · have h43_1s := bi_0.mp h43_1
            refine r_run okX11_count 1 (cs := []) (σ' := (52, [some (.ref 0), some (.int t), some (.int k), some (.int w), some (.int 1)], [.int (-1)], (SS b c), I, J, 0, 0)) rfl trivial ?_
            refine r_iret okX11_count rfl rfl rfl (Nat.le_refl _) (Nat.le_refl _) ?_
            exact ⟨by unfold cntV askB; rw [h35_1s, h43_1s]; rfl, rfl, kI_r, hH, kJ_r⟩
          · have h43_1s := bi_n0.mp h43_1
            refine r_run okX11_count 1 (cs := []) (σ' := (48, [some (.ref 0), some (.int t), some (.int k), some (.int w), some (.int 1)], [.int 1], (SS b c), I, J, 0, 0)) rfl trivial ?_
            refine r_ifc okX11_count rfl (fun (h48_1 : ¬ (1 : Int32) = (0 : Int32)) => ?_) (fun h48_10 => ?_)
            · refine r_run okX11_count 1 (cs := []) (σ' := (54, [some (.ref 0), some (.int t), some (.int k), some (.int w), some (.int 1)], [.int w], (SS b c), I, J, 0, 0)) rfl trivial ?_
              refine r_ifc okX11_count rfl (fun (h54 : ¬ w = (0 : Int32)) => ?_) (fun h540 => ?_)
              · refine r_run okX11_count 6 (cs := []) (σ' := (95, [some (.ref 0), some (.int t), some (.int k), some (.int w), some (.int 1)], [.int k, .ref 29, .int t, .ref 37], (SS b c), I, J, 0, 0)) rfl trivial ?_
                refine r_callV okX11_count okX7_knownAt [.int k] [.int t, .ref 37] 29 rfl rfl rfl kkX7_knownAt rfl rfl (by decide) rfl rfl rfl (by decide) ⟨Nat.le_refl _, Nat.le_refl _⟩ (Nat.le_of_ble_eq_true rfl) (o_knownAt γ hB.1 k hB.2.1) (fun v1 S1 I1 J1 hp => ?_)
                obtain ⟨rfl, rfl, rfl, rfl⟩ := hp
                show Rj _ _ _ _ _ _ (98, [some (.ref 0), some (.int t), some (.int k), some (.int w), some (.int 1)], [.int (nI (knN I k (nv (I 100 13)))), .int t, .ref 37], (SS b c), I, J, 0, 0)
                refine r_run okX11_count 2 (cs := []) (σ' := (102, [some (.ref 0), some (.int t), some (.int k), some (.int w), some (.int 1)], [.ref 77, .int (nI (knN I k (nv (I 100 13)))), .int t, .ref 37], (SS b c), I, J, 0, 0)) rfl trivial ?_
                refine r_callV okX11_count okX1_locateAfter [.int t, .int (nI (knN I k (nv (I 100 13)))), .ref 77] [] 37 rfl rfl rfl kkX1_locateAfter rfl rfl (by decide) rfl rfl rfl (by decide) ⟨Nat.le_refl _, Nat.le_refl _⟩ (Nat.le_of_ble_eq_true rfl) (o_aftX γ (t := nv t) (kn := (knN I k (nv (I 100 13)))) (Nat.lt_succ_of_le (in_lt (n := 719) h35_1s rfl (by decide)).1) ⟨kn_lt hB.2.1 k, knN_le⟩ hB hH knN_le (in_lt (n := 719) h35_1s rfl (by decide)).2 rfl) (fun v1 S1 I1 J1 hp => ?_)
                obtain ⟨rfl, rfl, hz, hO2, kz, cz⟩ := hp
                obtain ⟨Iz, eIz⟩ : ∃ z, z = I1 := ⟨_, rfl⟩
                subst eIz
                obtain ⟨Jz, eJz⟩ : ∃ z, z = J1 := ⟨_, rfl⟩
                subst eJz
                show Rj _ _ _ _ _ _ (105, [some (.ref 0), some (.int t), some (.int k), some (.int w), some (.int 1)], [], (SS b c), Iz, Jz, 0, 0)
                refine r_run okX11_count 2 (cs := []) (σ' := (107, [some (.ref 0), some (.int t), some (.int k), some (.int w), some (.int 1)], [.int 1, .int w], (SS b c), Iz, Jz, 0, 0)) rfl trivial ?_
                refine r_icmp okX11_count rfl (fun (h107 : ¬ w = (1 : Int32)) => ?_) (fun h1070 => ?_)
                · refine r_run okX11_count 5 (cs := []) (σ' := (126, [some (.ref 0), some (.int t), some (.int k), some (.int w), some (.int 1)], [.int (w - 10), .ref 77], (SS b c), Iz, Jz, 0, 0)) rfl trivial ?_
                  refine r_callV okX11_count okX0_has [.int (w - 10)] [] 77 rfl rfl rfl kkX0_has rfl rfl (by decide) rfl rfl rfl (by decide) ⟨Nat.le_refl _, Nat.le_refl _⟩ (Nat.le_of_ble_eq_true rfl) (a_has γ rfl cz (x := nv (w - 10)) (cell_lt (in105.symm.trans h17s)).1 (cell_lt (in105.symm.trans h17s)).2) (fun v1 S1 I1 J1 hp => ?_)
                  obtain ⟨rfl, rfl, rfl, rfl⟩ := hp
                  show Rj _ _ _ _ _ _ (129, [some (.ref 0), some (.int t), some (.int k), some (.int w), some (.int 1)], [.int (bi (aftX I (knN I k (nv (I 100 13))) (nv t) (nv (w - 10))))], (SS b c), Iz, Jz, 0, 0)
                  refine r_ifc okX11_count rfl (fun (h129 : (bi (aftX I (knN I k (nv (I 100 13))) (nv t) (nv (w - 10)))) = (0 : Int32)) => ?_) (fun (h129 : ¬ (bi (aftX I (knN I k (nv (I 100 13))) (nv t) (nv (w - 10)))) = (0 : Int32)) => ?_)
                  · refine r_run okX11_count 1 (cs := []) (σ' := (137, [some (.ref 0), some (.int t), some (.int k), some (.int w), some (.int 1)], [.int 0], (SS b c), Iz, Jz, 0, 0)) rfl trivial ?_
                    refine r_iret okX11_count rfl rfl rfl (Nat.le_refl _) (Nat.le_refl _) ?_
                    exact ⟨by unfold cntV askB; rw [h35_1s, h43_1s, show aftR I k (nv t) = aftX I (knN I k (nv (I 100 13))) (nv t) from funext fun y => (aftX_eq hB.1 hB.2.1 hB.2.2.2.2.2 k (Nat.lt_succ_of_le (in_lt (n := 719) h35_1s rfl (by decide)).1) y).symm, bi_0.mp h129]; simp [w0, w1, in105.symm.trans h17s]; rfl, rfl, hz, hO2, kz⟩
                  · refine r_run okX11_count 2 (cs := []) (σ' := (137, [some (.ref 0), some (.int t), some (.int k), some (.int w), some (.int 1)], [.int 1], (SS b c), Iz, Jz, 0, 0)) rfl trivial ?_
                    refine r_iret okX11_count rfl rfl rfl (Nat.le_refl _) (Nat.le_refl _) ?_
                    exact ⟨by unfold cntV askB; rw [h35_1s, h43_1s, show aftR I k (nv t) = aftX I (knN I k (nv (I 100 13))) (nv t) from funext fun y => (aftX_eq hB.1 hB.2.1 hB.2.2.2.2.2 k (Nat.lt_succ_of_le (in_lt (n := 719) h35_1s rfl (by decide)).1) y).symm, bi_n0.mp h129]; simp [w0, w1, in105.symm.trans h17s]; rfl, rfl, hz, hO2, kz⟩
                · have h107 : w = (1 : Int32) := Classical.not_not.mp h1070
                  exact absurd h107 w1
              · have h54 : w = (0 : Int32) := Classical.not_not.mp h540
                exact absurd h54 w0
            · have h48_1 : (1 : Int32) = (0 : Int32) := Classical.not_not.mp h48_10
              exact absurd h48_1 (by decide)
theorem o_count (γ : GE) {b c : Bool} {I : AI} {J : AJ} (hN : ONow I) (hB : HBs I J) (hH : OHea I J) (hn5 : rg 720 (I 100 5)) (t k w : Int32) : Ct γ mX11_count 5 0 0 [.ref 0, .int t, .int k, .int w] (SS b c) I J (fun rt S' I' J' => some (.int (cntV I t k w)) = rt ∧ (SS b c) = S' ∧ kI [37] I I' ∧ OHea I' J' ∧ kJ [38, 39, 40, 41, 77] J J') := by
  by_cases w0 : w = 0
  · subst w0; exact o_count0 γ hN hB hH hn5 t k
  by_cases w1 : w = 1
  · subst w1; exact o_count1 γ hN hB hH hn5 t k
  exact o_countx γ hN hB hH hn5 t k w w0 w1
theorem o_femX (γ : GE) {b c : Bool} {I : AI} {J : AJ} {t kn : Nat} (ht : t < 720) (hkn : kn < 301 ∧ kn ≤ nv (I 100 13)) (hB : HBs I J) (hH : OHea I J) {st : Nat} (hst : st < 720) (est : I 100 7 = nI st) {T K : Int32} (eT : T = nI t) (eK : K = nI kn) : Ct γ mX1_firstEmpty 4 0 0 [.ref 37, .int T, .int K] (SS b c) I J (fun rt S' I' J' => some (.int (emN I kn (t + 1 - st) st)) = rt ∧ (SS b c) = S' ∧ kI [37] I I' ∧ OHea I' J' ∧ kJ [38, 39, 40, 41] J J') := by
  subst eT; subst eK; exact o_firstEmpty γ ht hkn hB hH hst est
theorem o_quarrel (γ : GE) {b c : Bool} {I : AI} {J : AJ} (hN : ONow I) (hB : HBs I J) (hH : OHea I J) (hn5 : rg 720 (I 100 5)) (k : Int32) : Ct γ mX11_quarrel 5 0 0 [.ref 0, .int k] (SS b c) I J (fun rt S' I' J' => some (.int (quaV I k)) = rt ∧ (SS b c) = S' ∧ kI [37] I I' ∧ OHea I' J' ∧ kJ [38, 39, 40, 41, 77] J J') := by
  obtain ⟨st, hst, est⟩ := hB.2.2.2.2.2
  refine ct_of okX11_quarrel (L := [some (.ref 0), some (.int k)]) (Nat.le_of_ble_eq_true rfl) rfl ?_
  refine r_run okX11_quarrel 2 (cs := []) (σ' := (2, [some (.ref 0), some (.int k)], [.int k, .ref 0], (SS b c), I, J, 0, 0)) rfl trivial ?_
  refine r_callV okX11_quarrel okX11_isPast [.int k] [] 0 rfl rfl rfl kkX11_isPast rfl rfl (by decide) rfl rfl rfl (by decide) ⟨Nat.le_refl _, Nat.le_refl _⟩ (Nat.le_of_ble_eq_true rfl) (o_isPast γ hN k) (fun v1 S1 I1 J1 hp => ?_)
  obtain ⟨rfl, rfl, rfl, rfl⟩ := hp
  show Rj _ _ _ _ _ _ (5, [some (.ref 0), some (.int k)], [.int (bi (inB k 0 (I 100 5)))], (SS b c), I, J, 0, 0)
  refine r_ifc okX11_quarrel rfl (fun (h5 : (bi (inB k 0 (I 100 5))) = (0 : Int32)) => ?_) (fun (h5 : ¬ (bi (inB k 0 (I 100 5))) = (0 : Int32)) => ?_)
  · have h5s := bi_0.mp h5
    refine r_run okX11_quarrel 1 (cs := []) (σ' := (28, [some (.ref 0), some (.int k)], [.int (-1)], (SS b c), I, J, 0, 0)) rfl trivial ?_
    refine r_iret okX11_quarrel rfl rfl rfl (Nat.le_refl _) (Nat.le_refl _) ?_
    exact ⟨by unfold quaV; rw [h5s]; rfl, rfl, kI_r, hH, kJ_r⟩
  · have h5s := bi_n0.mp h5
    refine r_run okX11_quarrel 6 (cs := []) (σ' := (18, [some (.ref 0), some (.int k)], [.int k, .ref 29, .int k, .ref 37], (SS b c), I, J, 0, 0)) rfl trivial ?_
    refine r_callV okX11_quarrel okX7_knownAt [.int k] [.int k, .ref 37] 29 rfl rfl rfl kkX7_knownAt rfl rfl (by decide) rfl rfl rfl (by decide) ⟨Nat.le_refl _, Nat.le_refl _⟩ (Nat.le_of_ble_eq_true rfl) (o_knownAt γ hB.1 k hB.2.1) (fun v1 S1 I1 J1 hp => ?_)
    obtain ⟨rfl, rfl, rfl, rfl⟩ := hp
    show Rj _ _ _ _ _ _ (21, [some (.ref 0), some (.int k)], [.int (nI (knN I k (nv (I 100 13)))), .int k, .ref 37], (SS b c), I, J, 0, 0)
    refine r_callV okX11_quarrel okX1_firstEmpty [.int k, .int (nI (knN I k (nv (I 100 13))))] [] 37 rfl rfl rfl kkX1_firstEmpty rfl rfl (by decide) rfl rfl rfl (by decide) ⟨Nat.le_refl _, Nat.le_refl _⟩ (Nat.le_of_ble_eq_true rfl) (o_femX γ (t := nv k) (kn := (knN I k (nv (I 100 13)))) (by have h1 := (past_vin hn5 h5s).2.1; have h2 := (rg_nv hn5 (by decide)).1; omega) ⟨kn_lt hB.2.1 k, knN_le⟩ hB hH hst est (past_vin hn5 h5s).2.2 rfl) (fun v1 S1 I1 J1 hp => ?_)
    obtain ⟨rfl, rfl, hz, hO2, kz⟩ := hp
    obtain ⟨Iz, eIz⟩ : ∃ z, z = I1 := ⟨_, rfl⟩
    subst eIz
    obtain ⟨Jz, eJz⟩ : ∃ z, z = J1 := ⟨_, rfl⟩
    subst eJz
    show Rj _ _ _ _ _ _ (24, [some (.ref 0), some (.int k)], [.int (emN I (knN I k (nv (I 100 13))) (nv k + 1 - st) st)], (SS b c), Iz, Jz, 0, 0)
    refine r_run okX11_quarrel 1 (cs := []) (σ' := (28, [some (.ref 0), some (.int k)], [.int (emN I (knN I k (nv (I 100 13))) (nv k + 1 - st) st)], (SS b c), Iz, Jz, 0, 0)) rfl trivial ?_
    refine r_iret okX11_quarrel rfl rfl rfl (Nat.le_refl _) (Nat.le_refl _) ?_
    exact ⟨by unfold quaV; rw [h5s, if_pos rfl, est, nv_nI (by omega), emN_eq (kn_sp hB.1 k)], rfl, hz, hO2, kJ_m (by decide) kz⟩
