/-! ===== the reference: pathsIn, paths, missed, box ===== -/
theorem lp_Pc (γ : GE) {b c : Bool} {I : AI} {Post : PT} {J2 : AJ} (n k : Nat) (z : Int32) (g : Nat → Int64) (hg : ∀ y, y < 96 → J2 117 (96 + y) = g y) (K : Rj γ mX12_pathsIn 2 0 0 Post (178, [some (.ref 100), some (.int (nI n)), some (.int z), some (.int (nI k)), none, none, none, none], [], (SS b c), I, (wrJ J2 0 g 96), 0, 0)) : ∀ (j x : Nat), x + j = 96 → Rj γ mX12_pathsIn 2 0 0 (Post) (148, [some (.ref 100), some (.int (nI n)), some (.int z), some (.int (nI k)), some (.int (nI x)), none, none, none], [], (SS b c), I, (wrJ J2 0 g x), 0, 0) := by
  intro j
  induction j with
  | zero =>
    intro x  hj
    refine r_run okX12_pathsIn 2 (cs := []) (σ' := (152, [some (.ref 100), some (.int (nI n)), some (.int z), some (.int (nI k)), some (.int (nI x)), none, none, none], [.int 96, .int (nI x)], (SS b c), I, (wrJ J2 0 g x), 0, 0)) rfl trivial ?_
    refine r_icmp okX12_pathsIn rfl (fun (h152 : (96 : Int32) ≤ (nI x)) => ?_) (fun (h152 : ¬ (96 : Int32) ≤ (nI x)) => ?_)
    · rw [show x = 96 by omega]
      refine r_weak (L' := [some (.ref 100), some (.int (nI n)), some (.int z), some (.int (nI k)), none, none, none, none]) ⟨rfl, rfl, rfl, rfl, trivial⟩ K
    · exact absurd (nI_le (a := 96) (by omega) (by omega)) h152
  | succ j ih =>
    intro x  hj
    have e96 : (96 : Int32) + nI x = nI (96 + x) := nI_add 96 x
    have c96 : ((96 : Int32) + nI x).toNatClampNeg = 96 + x := by rw [e96]; exact nI_clamp (by omega)
    have v96 : vp_in ((96 : Int32) + nI x) 192 := by rw [e96]; exact vin (by omega) (by decide)
    have cx : (nI x).toNatClampNeg = x := nI_clamp (by omega)
    have rb : (wrJ J2 0 g x) 117 (96 + x) = g x := by rw [wrJ_out (by omega)]; exact hg x (by omega)
    refine r_run okX12_pathsIn 2 (cs := []) (σ' := (152, [some (.ref 100), some (.int (nI n)), some (.int z), some (.int (nI k)), some (.int (nI x)), none, none, none], [.int 96, .int (nI x)], (SS b c), I, (wrJ J2 0 g x), 0, 0)) rfl trivial ?_
    refine r_icmp okX12_pathsIn rfl (fun (h152 : (96 : Int32) ≤ (nI x)) => ?_) (fun (h152 : ¬ (96 : Int32) ≤ (nI x)) => ?_)
    · exact absurd h152 (nI_ge (b := 96) (by omega) (by decide))
    · refine r_run okX12_pathsIn 12 (cs := [vp_in (96 + (nI x)) 192, vp_in (nI x) 192]) (σ' := (148, [some (.ref 100), some (.int (nI n)), some (.int z), some (.int (nI k)), some (.int (nI x + 1)), none, none, none], [], (SS b c), I, (upJ (wrJ J2 0 g x) 117 ((nI x).toNatClampNeg) ((wrJ J2 0 g x) 117 ((96 + (nI x)).toNatClampNeg))), 0, 0)) rfl ⟨v96, (vin (by omega) (by decide)), trivial⟩ ?_
      simp only [c96, cx, rb]
      show Rj _ _ _ _ _ _ (148, [some (.ref 100), some (.int (nI n)), some (.int z), some (.int (nI k)), some (.int (nI x + 1)), none, none, none], [], (SS b c), I, (upJ (wrJ J2 0 g x) 117 x (g x)), 0, 0)
      have e := wrJ_s (J := J2) (n := 0) (f := g) (k := x)
      rw [Nat.zero_add] at e
      rw [e, ← nI_succ]
      exact ih (x + 1) (by omega)
theorem lp_Pk (γ : GE) {b c : Bool} {I : AI} {Post : PT} {J : AJ} (n : Nat) (z : Int32) (hn : n < 2 ^ 30) (K : ∀ J1 : AJ, (∀ y, y < 96 → J1 117 y = wyN I z n y) → (∀ a, a ≠ 117 → J1 a = J a) → Rj γ mX12_pathsIn 2 0 0 Post (184, [some (.ref 100), some (.int (nI n)), some (.int z), none, none, none, none, none], [], (SS b c), I, J1, 0, 0)) : ∀ (j k : Nat), k + j = n → ∀ J1 : AJ, ((∀ y, y < 96 → J1 117 y = wyN I z k y) ∧ ∀ a, a ≠ 117 → J1 a = J a) → Rj γ mX12_pathsIn 2 0 0 Post (36, [some (.ref 100), some (.int (nI n)), some (.int z), some (.int (nI k)), none, none, none, none], [], (SS b c), I, J1, 0, 0) := by
  intro j
  induction j with
  | zero =>
    intro k hk J1 hi
    refine r_run okX12_pathsIn 2 (cs := []) (σ' := (38, [some (.ref 100), some (.int (nI n)), some (.int z), some (.int (nI k)), none, none, none, none], [.int (nI n), .int (nI k)], (SS b c), I, J1, 0, 0)) rfl trivial ?_
    refine r_icmp okX12_pathsIn rfl (fun (h38 : (nI n) ≤ (nI k)) => ?_) (fun (h38 : ¬ (nI n) ≤ (nI k)) => ?_)
    · refine r_weak (L' := [some (.ref 100), some (.int (nI n)), some (.int z), none, none, none, none, none]) ⟨rfl, rfl, rfl, trivial⟩ ?_
      have e : k = n := by omega
      subst e
      exact K J1 hi.1 hi.2
    · exact absurd (nI_le (by omega) (by omega)) h38
  | succ j ih =>
    intro k hk J1 hi
    refine r_run okX12_pathsIn 2 (cs := []) (σ' := (38, [some (.ref 100), some (.int (nI n)), some (.int z), some (.int (nI k)), none, none, none, none], [.int (nI n), .int (nI k)], (SS b c), I, J1, 0, 0)) rfl trivial ?_
    refine r_icmp okX12_pathsIn rfl (fun (h38 : (nI n) ≤ (nI k)) => ?_) (fun (h38 : ¬ (nI n) ≤ (nI k)) => ?_)
    · exact absurd h38 (nI_ge (by omega) (by omega))
    · refine r_run okX12_pathsIn 2 (cs := []) (σ' := (44, [some (.ref 100), some (.int (nI n)), some (.int z), some (.int (nI k)), some (.int 0), none, none, none], [], (SS b c), I, J1, 0, 0)) rfl trivial ?_
      have h := lp_Px γ (b := b) (c := c) (I := I) (Post := Post) (J1 := J1) n k z hi.1 ?_ 96 0 rfl
      · rw [wrJ_0, nI_0] at h
        exact h
      · refine r_run okX12_pathsIn 2 (cs := []) (σ' := (148, [some (.ref 100), some (.int (nI n)), some (.int z), some (.int (nI k)), some (.int 0), none, none, none], [], (SS b c), I, (wrJ J1 96 (wyN I z (k + 1)) 96), 0, 0)) rfl trivial ?_
        have h := lp_Pc γ (b := b) (c := c) (I := I) (Post := Post) (J2 := wrJ J1 96 (wyN I z (k + 1)) 96) n k z (wyN I z (k + 1)) (fun y hy => wrJ_in hy) ?_ 96 0 rfl
        · rw [wrJ_0, nI_0] at h
          exact h
        · refine r_run okX12_pathsIn 2 (cs := []) (σ' := (36, [some (.ref 100), some (.int (nI n)), some (.int z), some (.int (nI k + 1)), none, none, none, none], [], (SS b c), I, (wrJ (wrJ J1 96 (wyN I z (k + 1)) 96) 0 (wyN I z (k + 1)) 96), 0, 0)) rfl trivial ?_
          rw [← nI_succ]
          refine ih (k + 1) (by omega) _ ⟨fun y hy => ?_, fun a ha => ?_⟩
          · have := wrJ_in (J := wrJ J1 96 (wyN I z (k + 1)) 96) (n := 0) (f := wyN I z (k + 1)) hy
            rw [Nat.zero_add] at this
            exact this
          · rw [wrJ_ne ha, wrJ_ne ha]; exact hi.2 a ha
theorem lp_Ps (γ : GE) {b c : Bool} {I : AI} {J J1 : AJ} (n t : Nat) (z : Int32) (fm : Nat → Bool) (ht : t < 720) (et : I 100 5 = nI t) (hm : ∀ y, y < 96 → I 116 (96 * t + y) = bi (fm y)) (hj1 : ∀ y, y < 96 → J1 117 y = wyN I z n y) (hj2 : ∀ a, a ≠ 117 → J1 a = J a) : ∀ (j x : Nat), x + j = 96 → Rj γ mX12_pathsIn 2 0 0 (fun r S' I' J' => some (.long (pthV I z n fm)) = r ∧ (SS b c) = S' ∧ I = I' ∧ ∀ a, a ≠ 117 → J' a = J a) (189, [some (.ref 100), some (.int (nI n)), some (.int z), some (.long (sumW (wyN I z n) fm x)), none, some (.int (nI x)), none, none], [], (SS b c), I, J1, 0, 0) := by
  intro j
  induction j with
  | zero =>
    intro x  hj
    refine r_run okX12_pathsIn 2 (cs := []) (σ' := (193, [some (.ref 100), some (.int (nI n)), some (.int z), some (.long (sumW (wyN I z n) fm x)), none, some (.int (nI x)), none, none], [.int 96, .int (nI x)], (SS b c), I, J1, 0, 0)) rfl trivial ?_
    refine r_icmp okX12_pathsIn rfl (fun (h193 : (96 : Int32) ≤ (nI x)) => ?_) (fun (h193 : ¬ (96 : Int32) ≤ (nI x)) => ?_)
    · refine r_run okX12_pathsIn 1 (cs := []) (σ' := (231, [some (.ref 100), some (.int (nI n)), some (.int z), some (.long (sumW (wyN I z n) fm x)), none, some (.int (nI x)), none, none], [.long (sumW (wyN I z n) fm x)], (SS b c), I, J1, 0, 0)) rfl trivial ?_
      refine r_lret okX12_pathsIn rfl rfl (Nat.le_refl _) (Nat.le_refl _) ?_
      rw [show x = 96 by omega]
      exact ⟨rfl, rfl, rfl, hj2⟩
    · exact absurd (nI_le (a := 96) (by omega) (by omega)) h193
  | succ j ih =>
    intro x  hj
    have e1 : (96 : Int32) * nI t + nI x = nI (96 * t + x) := mul_add_nI 96 t x
    have ct : ((96 : Int32) * nI t + nI x).toNatClampNeg = 96 * t + x := by rw [e1]; exact nI_clamp (by omega)
    have ct0 : ((96 : Int32) * I 100 5 + nI x).toNatClampNeg = 96 * t + x := by rw [et]; exact ct
    have vt : vp_in ((96 : Int32) * I 100 5 + nI x) 69120 := by rw [et, e1]; exact vin (by omega) (by decide)
    have cx : (nI x).toNatClampNeg = x := nI_clamp (by omega)
    have rm := hm x (by omega)
    have rb := hj1 x (by omega)
    refine r_run okX12_pathsIn 2 (cs := []) (σ' := (193, [some (.ref 100), some (.int (nI n)), some (.int z), some (.long (sumW (wyN I z n) fm x)), none, some (.int (nI x)), none, none], [.int 96, .int (nI x)], (SS b c), I, J1, 0, 0)) rfl trivial ?_
    refine r_icmp okX12_pathsIn rfl (fun (h193 : (96 : Int32) ≤ (nI x)) => ?_) (fun (h193 : ¬ (96 : Int32) ≤ (nI x)) => ?_)
    · exact absurd h193 (nI_ge (b := 96) (by omega) (by decide))
    · refine r_run okX12_pathsIn 9 (cs := [vp_in ((96 * (I 100 5)) + (nI x)) 69120]) (σ' := (211, [some (.ref 100), some (.int (nI n)), some (.int z), some (.long (sumW (wyN I z n) fm x)), none, some (.int (nI x)), none, none], [.int (I 116 (((96 * (I 100 5)) + (nI x)).toNatClampNeg))], (SS b c), I, J1, 0, 0)) rfl ⟨vt, trivial⟩ ?_
      simp only [ct0, rm]
      show Rj _ _ _ _ _ _ (211, [some (.ref 100), some (.int (nI n)), some (.int z), some (.long (sumW (wyN I z n) fm x)), none, some (.int (nI x)), none, none], [.int (bi (fm x))], (SS b c), I, J1, 0, 0)
      refine r_ifc okX12_pathsIn rfl (fun (h211 : (bi (fm x)) = (0 : Int32)) => ?_) (fun (h211 : ¬ (bi (fm x)) = (0 : Int32)) => ?_)
      · have hs := bi_0.mp h211
        refine r_run okX12_pathsIn 2 (cs := []) (σ' := (189, [some (.ref 100), some (.int (nI n)), some (.int z), some (.long (sumW (wyN I z n) fm x)), none, some (.int (nI x + 1)), none, none], [], (SS b c), I, J1, 0, 0)) rfl trivial ?_
        have e : sumW (wyN I z n) fm (x + 1) = (sumW (wyN I z n) fm x) := by rw [sumW, hs]; rfl
        rw [← nI_succ, ← e]
        exact ih (x + 1) (by omega)
      · have hs := bi_n0.mp h211
        refine r_run okX12_pathsIn 9 (cs := [vp_in (nI x) 192]) (σ' := (189, [some (.ref 100), some (.int (nI n)), some (.int z), some (.long ((sumW (wyN I z n) fm x) + (J1 117 ((nI x).toNatClampNeg)))), none, some (.int (nI x + 1)), none, none], [], (SS b c), I, J1, 0, 0)) rfl ⟨(vin (by omega) (by decide)), trivial⟩ ?_
        simp only [cx, rb]
        show Rj _ _ _ _ _ _ (189, [some (.ref 100), some (.int (nI n)), some (.int z), some (.long ((sumW (wyN I z n) fm x) + (wyN I z n x))), none, some (.int (nI x + 1)), none, none], [], (SS b c), I, J1, 0, 0)
        have e : sumW (wyN I z n) fm (x + 1) = ((sumW (wyN I z n) fm x) + (wyN I z n x)) := by rw [sumW, hs]; rfl
        rw [← nI_succ, ← e]
        exact ih (x + 1) (by omega)
theorem c_pathsIn0 (γ : GE) {b c : Bool} {I : AI} {J : AJ} (n t : Nat) (z : Int32) (fm : Nat → Bool) (hn : n < 2 ^ 30) (ht : t < 720) (et : I 100 5 = nI t) (hm : ∀ y, y < 96 → I 116 (96 * t + y) = bi (fm y)) : Ct γ mX12_pathsIn 2 0 0 [.ref 100, .int (nI n), .int z] (SS b c) I J ((fun r S' I' J' => some (.long (pthV I z n fm)) = r ∧ (SS b c) = S' ∧ I = I' ∧ ∀ a, a ≠ 117 → J' a = J a)) := by
  refine ct_of okX12_pathsIn (L := [some (.ref 100), some (.int (nI n)), some (.int z), none, none, none, none, none]) (Nat.le_of_ble_eq_true rfl) rfl ?_
  refine r_run okX12_pathsIn 2 (cs := []) (σ' := (2, [some (.ref 100), some (.int (nI n)), some (.int z), some (.int 0), none, none, none, none], [], (SS b c), I, J, 0, 0)) rfl trivial ?_
  have h := lp_PA γ (b := b) (c := c) (I := I) (J := J) (Post := (fun r S' I' J' => some (.long (pthV I z n fm)) = r ∧ (SS b c) = S' ∧ I = I' ∧ ∀ a, a ≠ 117 → J' a = J a)) n z ?_ 96 0 rfl
  · rw [wrJ_0, nI_0] at h
    exact h
  · refine r_run okX12_pathsIn 2 (cs := []) (σ' := (36, [some (.ref 100), some (.int (nI n)), some (.int z), some (.int 0), none, none, none, none], [], (SS b c), I, (wrJ J 0 (wyN I z 0) 96), 0, 0)) rfl trivial ?_
    have h := lp_Pk γ (b := b) (c := c) (I := I) (J := J) (Post := (fun r S' I' J' => some (.long (pthV I z n fm)) = r ∧ (SS b c) = S' ∧ I = I' ∧ ∀ a, a ≠ 117 → J' a = J a)) n z hn (fun J1 hj1 hj2 => ?_) n 0 (by omega) (wrJ J 0 (wyN I z 0) 96) ⟨fun y hy => by have := wrJ_in (J := J) (n := 0) (f := wyN I z 0) hy; rw [Nat.zero_add] at this; exact this, fun a ha => wrJ_ne ha⟩
    · rw [nI_0] at h
      exact h
    · refine r_run okX12_pathsIn 4 (cs := []) (σ' := (189, [some (.ref 100), some (.int (nI n)), some (.int z), some (.long 0), none, some (.int 0), none, none], [], (SS b c), I, J1, 0, 0)) rfl trivial ?_
      have h := lp_Ps γ (b := b) (c := c) (I := I) (J := J) (J1 := J1) n t z fm ht et hm hj1 hj2 96 0 rfl
      rw [show sumW (wyN I z n) fm 0 = 0 from rfl, nI_0] at h
      exact h
/-- a long answer; 116 of the ints and 117 of the longs may be others -/
def rJ1 (x : Int64) (S : List Sh) (I : AI) (J : AJ) : PT := fun r S' I' J' => some (.long x) = r ∧ S = S' ∧ (∀ a, a ≠ 116 → I' a = I a) ∧ ∀ a, a ≠ 117 → J' a = J a
def rI2 (x : Int32) (S : List Sh) (I : AI) (J : AJ) : PT := fun r S' I' J' => some (.int x) = r ∧ S = S' ∧ (∀ a, a ≠ 116 → I' a = I a) ∧ ∀ a, a ≠ 117 → J' a = J a
theorem in0_c {I I' : AI} (h : ∀ a, a ≠ 116 → I' a = I a) (z : Int32) (x : Nat) : in0 I' z x = in0 I z x := by
  unfold in0; rw [h 101 (by decide), h 102 (by decide)]
theorem wyN_c {I I' : AI} (h : ∀ a, a ≠ 116 → I' a = I a) (z : Int32) : ∀ k x, wyN I' z k x = wyN I z k x
  | 0, x => by unfold wyN; rw [in0_c h]
  | k + 1, x => by
    unfold wyN
    rw [in0_c h, h 100 (by decide)]
    congr 2
    funext b
    exact wyN_c h z k _
theorem pthV_c {I I' : AI} (h : ∀ a, a ≠ 116 → I' a = I a) (z : Int32) (n : Nat) (f : Nat → Bool) : pthV I' z n f = pthV I z n f := by
  unfold pthV
  rw [show wyN I' z n = wyN I z n from funext (wyN_c h z n)]
/-- the paths of n steps within z, from where the heart may be now -/
def pthA (I : AI) (z : Int32) (n : Nat) : Int64 := pthV I z n (mayB I (I 100 5) (nv (I 100 5)))
theorem pthA_eq {I : AI} {z : Int32} {n t : Nat} (ht : t < 720) (et : I 100 5 = nI t) : pthV (memM I (nI t) (t + 1)) z n (mayB I (nI t) t) = pthA I z n := by
  unfold pthA
  rw [pthV_c (fun a h => memM_ne h), et, nv_nI (by omega)]
def spnB (n : Int32) : Bool := inB n 1 12
def pthR (I : AI) (n : Int32) : Int64 := if spnB n then pthA I 255 (nv n) else -1
def misR (I : AI) (n z : Int32) : Int64 := if spnB n && inB z 0 255 then pthA I 255 (nv n) - pthA I z (nv n) else -1
theorem spn_nat {n : Int32} (h : spnB n = true) : ∃ k, 1 ≤ k ∧ k ≤ 12 ∧ n = nI k := by
  obtain ⟨h1, h2⟩ := inB_t.mp h
  have h0 : inB n 0 12 = true := inB_t.mpr ⟨Int32.le_trans (by decide) h1, h2⟩
  obtain ⟨k, hk, rfl⟩ := in_nat h0 (n := 12) rfl (by decide)
  exact ⟨k, Nat.le_of_not_lt fun q => nI_ge (b := 1) q (by decide) h1, hk, rfl⟩
theorem c_findMaybe1 (γ : GE) {b c : Bool} {I : AI} {J : AJ} {t : Nat} (hI : MBase I) (ht : t < 720) (et : I 100 5 = nI t) : Ct γ mX12_findMaybe 3 0 0 [.ref 100, .int (I 100 5), .int (I 100 5)] (SS b c) I J (rV (SS b c) (memM I (nI t) (t + 1)) J) := by
  rw [et]
  exact c_findMaybe0 γ t (nI t) ht hI.2.1 hI.2.2.1 hI.2.2.2.1
theorem c_Mpaths1 (γ : GE) {b c : Bool} {I : AI} {J : AJ} (hI : MBase I) (n : Nat) (hn : n ≤ 12) (ha : spnB (nI n) = true) : Ct γ mX12_paths 4 0 0 [.ref 100, .int (nI n)] (SS b c) I J (rJ1 (pthR I (nI n)) (SS b c) I J) := by
  have htt := told0 hI.1
  obtain ⟨t, ht, et⟩ := hI.2.2.2.2
  have e5 : memM I (nI t) (t + 1) 100 5 = nI t := by rw [memM_ne (by decide)]; exact et
  refine ct_of okX12_paths (L := [some (.ref 100), some (.int (nI n))]) (Nat.le_of_ble_eq_true rfl) rfl ?_
  refine r_run okX12_paths 7 (cs := []) (σ' := (10, [some (.ref 100), some (.int (nI n))], [.int 12, .int 1, .int (nI n), .ref 100], (SS b c), (upI I 100 0 0), J, 0, 0)) rfl trivial ?_
  simp only [htt]
  show Rj _ _ _ _ _ _ (10, [some (.ref 100), some (.int (nI n))], [.int 12, .int 1, .int (nI n), .ref 100], (SS b c), I, J, 0, 0)
  refine r_callV okX12_paths okX12_isIn [.int (nI n), .int 1, .int 12] [] 100 rfl rfl rfl kkX12_isIn rfl rfl (by decide) rfl rfl rfl (by decide) ⟨Nat.le_refl _, Nat.le_refl _⟩ (Nat.le_of_ble_eq_true rfl) (c_isIn γ (nI n) 1 12) (fun v1 S1 I1 J1 hp => ?_)
  obtain ⟨rfl, rfl, rfl, rfl⟩ := hp
  show Rj _ _ _ _ _ _ (13, [some (.ref 100), some (.int (nI n))], [.int (bi (inB (nI n) 1 12))], (SS b c), I, J, 0, 0)
  refine r_ifc okX12_paths rfl (fun (h13 : ¬ (bi (inB (nI n) 1 12)) = (0 : Int32)) => ?_) (fun h130 => ?_)
  · have h13s := bi_n0.mp h13
    refine r_run okX12_paths 5 (cs := []) (σ' := (29, [some (.ref 100), some (.int (nI n))], [.int (I 100 5), .int (I 100 5), .ref 100], (SS b c), I, J, 0, 0)) rfl trivial ?_
    refine r_callV okX12_paths okX12_findMaybe [.int (I 100 5), .int (I 100 5)] [] 100 rfl rfl rfl kkX12_findMaybe rfl rfl (by decide) rfl rfl rfl (by decide) ⟨Nat.le_refl _, Nat.le_refl _⟩ (Nat.le_of_ble_eq_true rfl) (c_findMaybe1 γ hI ht et) (fun v1 S1 I1 J1 hp => ?_)
    obtain ⟨rfl, rfl, rfl, rfl⟩ := hp
    show Rj _ _ _ _ _ _ (32, [some (.ref 100), some (.int (nI n))], [], (SS b c), (memM I (nI t) (t + 1)), J, 0, 0)
    refine r_run okX12_paths 3 (cs := []) (σ' := (37, [some (.ref 100), some (.int (nI n))], [.int 255, .int (nI n), .ref 100], (SS b c), (memM I (nI t) (t + 1)), J, 0, 0)) rfl trivial ?_
    refine r_callV okX12_paths okX12_pathsIn [.int (nI n), .int 255] [] 100 rfl rfl rfl kkX12_pathsIn rfl rfl (by decide) rfl rfl rfl (by decide) ⟨Nat.le_refl _, Nat.le_refl _⟩ (Nat.le_of_ble_eq_true rfl) (c_pathsIn0 γ n t 255 (mayB I (nI t) t) (by omega) ht e5 (fun x hx => memM_at (by omega) hx)) (fun v1 S1 I1 J1 hp => ?_)
    obtain ⟨rfl, rfl, rfl, hj1⟩ := hp
    skip
    show Rj _ _ _ _ _ _ (40, [some (.ref 100), some (.int (nI n))], [.long (pthV (memM I (nI t) (t + 1)) 255 n (mayB I (nI t) t))], (SS b c), (memM I (nI t) (t + 1)), J1, 0, 0)
    refine r_lret okX12_paths rfl rfl (Nat.le_refl _) (Nat.le_refl _) ?_
    refine ⟨?_, rfl, ?_, ?_⟩
    · simp [pthR, misR, ha, nv_nI (show n < 2 ^ 31 by omega), ← pthA_eq ht et, *]
    · intro a q; first | rfl | exact memM_ne q
    · intro a q; first | rfl | exact (hj2 a q).trans (hj1 a q) | exact hj1 a q
  · have h13 : (bi (inB (nI n) 1 12)) = (0 : Int32) := Classical.not_not.mp h130
    have h13s := bi_0.mp h13
    exact absurd (bi_0.mp (Classical.not_not.mp h130)) (by rw [show inB (nI n) 1 12 = true from ha]; decide)
theorem c_Mmissed1 (γ : GE) {b c : Bool} {I : AI} {J : AJ} (hI : MBase I) (n : Nat) (z : Int32) (hn : n ≤ 12) (ha : spnB (nI n) = true) : Ct γ mX12_missed 4 0 0 [.ref 100, .int (nI n), .int z] (SS b c) I J (rJ1 (misR I (nI n) z) (SS b c) I J) := by
  have htt := told0 hI.1
  obtain ⟨t, ht, et⟩ := hI.2.2.2.2
  have e5 : memM I (nI t) (t + 1) 100 5 = nI t := by rw [memM_ne (by decide)]; exact et
  refine ct_of okX12_missed (L := [some (.ref 100), some (.int (nI n)), some (.int z)]) (Nat.le_of_ble_eq_true rfl) rfl ?_
  refine r_run okX12_missed 7 (cs := []) (σ' := (10, [some (.ref 100), some (.int (nI n)), some (.int z)], [.int 12, .int 1, .int (nI n), .ref 100], (SS b c), (upI I 100 0 0), J, 0, 0)) rfl trivial ?_
  simp only [htt]
  show Rj _ _ _ _ _ _ (10, [some (.ref 100), some (.int (nI n)), some (.int z)], [.int 12, .int 1, .int (nI n), .ref 100], (SS b c), I, J, 0, 0)
  refine r_callV okX12_missed okX12_isIn [.int (nI n), .int 1, .int 12] [] 100 rfl rfl rfl kkX12_isIn rfl rfl (by decide) rfl rfl rfl (by decide) ⟨Nat.le_refl _, Nat.le_refl _⟩ (Nat.le_of_ble_eq_true rfl) (c_isIn γ (nI n) 1 12) (fun v1 S1 I1 J1 hp => ?_)
  obtain ⟨rfl, rfl, rfl, rfl⟩ := hp
  show Rj _ _ _ _ _ _ (13, [some (.ref 100), some (.int (nI n)), some (.int z)], [.int (bi (inB (nI n) 1 12))], (SS b c), I, J, 0, 0)
  refine r_ifc okX12_missed rfl (fun (h13 : (bi (inB (nI n) 1 12)) = (0 : Int32)) => ?_) (fun (h13 : ¬ (bi (inB (nI n) 1 12)) = (0 : Int32)) => ?_)
  · have h13s := bi_0.mp h13
    exact absurd (bi_0.mp h13) (by rw [show inB (nI n) 1 12 = true from ha]; decide)
  · have h13s := bi_n0.mp h13
    refine r_run okX12_missed 4 (cs := []) (σ' := (22, [some (.ref 100), some (.int (nI n)), some (.int z)], [.int 255, .int 0, .int z, .ref 100], (SS b c), I, J, 0, 0)) rfl trivial ?_
    refine r_callV okX12_missed okX12_isIn [.int z, .int 0, .int 255] [] 100 rfl rfl rfl kkX12_isIn rfl rfl (by decide) rfl rfl rfl (by decide) ⟨Nat.le_refl _, Nat.le_refl _⟩ (Nat.le_of_ble_eq_true rfl) (c_isIn γ z 0 255) (fun v1 S1 I1 J1 hp => ?_)
    obtain ⟨rfl, rfl, rfl, rfl⟩ := hp
    show Rj _ _ _ _ _ _ (25, [some (.ref 100), some (.int (nI n)), some (.int z)], [.int (bi (inB z 0 255))], (SS b c), I, J, 0, 0)
    refine r_ifc okX12_missed rfl (fun (h25 : ¬ (bi (inB z 0 255)) = (0 : Int32)) => ?_) (fun h250 => ?_)
    · have h25s := bi_n0.mp h25
      refine r_run okX12_missed 5 (cs := []) (σ' := (41, [some (.ref 100), some (.int (nI n)), some (.int z)], [.int (I 100 5), .int (I 100 5), .ref 100], (SS b c), I, J, 0, 0)) rfl trivial ?_
      refine r_callV okX12_missed okX12_findMaybe [.int (I 100 5), .int (I 100 5)] [] 100 rfl rfl rfl kkX12_findMaybe rfl rfl (by decide) rfl rfl rfl (by decide) ⟨Nat.le_refl _, Nat.le_refl _⟩ (Nat.le_of_ble_eq_true rfl) (c_findMaybe1 γ hI ht et) (fun v1 S1 I1 J1 hp => ?_)
      obtain ⟨rfl, rfl, rfl, rfl⟩ := hp
      show Rj _ _ _ _ _ _ (44, [some (.ref 100), some (.int (nI n)), some (.int z)], [], (SS b c), (memM I (nI t) (t + 1)), J, 0, 0)
      refine r_run okX12_missed 3 (cs := []) (σ' := (49, [some (.ref 100), some (.int (nI n)), some (.int z)], [.int 255, .int (nI n), .ref 100], (SS b c), (memM I (nI t) (t + 1)), J, 0, 0)) rfl trivial ?_
      refine r_callV okX12_missed okX12_pathsIn [.int (nI n), .int 255] [] 100 rfl rfl rfl kkX12_pathsIn rfl rfl (by decide) rfl rfl rfl (by decide) ⟨Nat.le_refl _, Nat.le_refl _⟩ (Nat.le_of_ble_eq_true rfl) (c_pathsIn0 γ n t 255 (mayB I (nI t) t) (by omega) ht e5 (fun x hx => memM_at (by omega) hx)) (fun v1 S1 I1 J1 hp => ?_)
      obtain ⟨rfl, rfl, rfl, hj1⟩ := hp
      skip
      show Rj _ _ _ _ _ _ (52, [some (.ref 100), some (.int (nI n)), some (.int z)], [.long (pthV (memM I (nI t) (t + 1)) 255 n (mayB I (nI t) t))], (SS b c), (memM I (nI t) (t + 1)), J1, 0, 0)
      refine r_run okX12_missed 3 (cs := []) (σ' := (55, [some (.ref 100), some (.int (nI n)), some (.int z)], [.int z, .int (nI n), .ref 100, .long (pthV (memM I (nI t) (t + 1)) 255 n (mayB I (nI t) t))], (SS b c), (memM I (nI t) (t + 1)), J1, 0, 0)) rfl trivial ?_
      refine r_callV okX12_missed okX12_pathsIn [.int (nI n), .int z] [.long (pthV (memM I (nI t) (t + 1)) 255 n (mayB I (nI t) t))] 100 rfl rfl rfl kkX12_pathsIn rfl rfl (by decide) rfl rfl rfl (by decide) ⟨Nat.le_refl _, Nat.le_refl _⟩ (Nat.le_of_ble_eq_true rfl) (c_pathsIn0 γ n t z (mayB I (nI t) t) (by omega) ht e5 (fun x hx => memM_at (by omega) hx)) (fun v1 S1 I1 J1 hp => ?_)
      obtain ⟨rfl, rfl, rfl, hj2⟩ := hp
      rename AJ => J2
      show Rj _ _ _ _ _ _ (58, [some (.ref 100), some (.int (nI n)), some (.int z)], [.long (pthV (memM I (nI t) (t + 1)) z n (mayB I (nI t) t)), .long (pthV (memM I (nI t) (t + 1)) 255 n (mayB I (nI t) t))], (SS b c), (memM I (nI t) (t + 1)), J2, 0, 0)
      refine r_run okX12_missed 1 (cs := []) (σ' := (59, [some (.ref 100), some (.int (nI n)), some (.int z)], [.long ((pthV (memM I (nI t) (t + 1)) 255 n (mayB I (nI t) t)) - (pthV (memM I (nI t) (t + 1)) z n (mayB I (nI t) t)))], (SS b c), (memM I (nI t) (t + 1)), J2, 0, 0)) rfl trivial ?_
      refine r_lret okX12_missed rfl rfl (Nat.le_refl _) (Nat.le_refl _) ?_
      refine ⟨?_, rfl, ?_, ?_⟩
      · simp [pthR, misR, ha, nv_nI (show n < 2 ^ 31 by omega), ← pthA_eq ht et, *]
      · intro a q; first | rfl | exact memM_ne q
      · intro a q; first | rfl | exact (hj2 a q).trans (hj1 a q) | exact hj1 a q
    · have h25 : (bi (inB z 0 255)) = (0 : Int32) := Classical.not_not.mp h250
      have h25s := bi_0.mp h25
      refine r_run okX12_missed 1 (cs := []) (σ' := (31, [some (.ref 100), some (.int (nI n)), some (.int z)], [.long (-1)], (SS b c), I, J, 0, 0)) rfl trivial ?_
      refine r_lret okX12_missed rfl rfl (Nat.le_refl _) (Nat.le_refl _) ?_
      refine ⟨?_, rfl, ?_, ?_⟩
      · simp [pthR, misR, ha, nv_nI (show n < 2 ^ 31 by omega), ← pthA_eq ht et, *]
      · intro a q; first | rfl | exact memM_ne q
      · intro a q; first | rfl | exact (hj2 a q).trans (hj1 a q) | exact hj1 a q
