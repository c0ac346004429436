/-! ===== the reference: found, isTrueIn, entries ===== -/
def MTru (I : AI) : Prop := ∀ t, t < 720 → rg 97 (I 139 t)
def fndS (I : AI) : Nat → Nat → Int32 → Int32
  | 0, _, a => a
  | j + 1, t, a => if I 139 t = 0 ∨ (0 < t ∧ I 139 (t - 1) = I 139 t) then fndS I j (t + 1) a else fndS I j (t + 1) (a + I 102 (nv (I 139 t) - 1) - safV I (nI t) (nv (I 139 t) - 1))
def fndB (I : AI) (a b : Int32) : Bool := decide (¬ a < 0) && (decide (¬ b < a) && decide (b ≤ I 100 5))
def fndV (I : AI) (a b : Int32) : Int32 := if fndB I a b then fndS I (nv b + 1 - nv a) (nv a) 0 else -1
theorem lp_found (γ : GE) {b c : Bool} {I : AI} {J : AJ} (hI : MWar I) (hTr : MTru I) (p q : Nat) (hq : q < 720) : ∀ (j t : Nat) (acc : Int32), t + j = q + 1 → Rj γ mX12_found 3 0 0 (rI (fndS I j t acc) (SS b c) I J) (29, [some (.ref 100), some (.int (nI p)), some (.int (nI q)), some (.int acc), some (.int (nI t)), none], [], (SS b c), I, J, 0, 0) := by
  intro j
  induction j with
  | zero =>
    intro t acc hj
    refine r_run okX12_found 2 (cs := []) (σ' := (32, [some (.ref 100), some (.int (nI p)), some (.int (nI q)), some (.int acc), some (.int (nI t)), none], [.int (nI q), .int (nI t)], (SS b c), I, J, 0, 0)) rfl trivial ?_
    refine r_icmp okX12_found rfl (fun (h32 : (nI q) < (nI t)) => ?_) (fun (h32 : ¬ (nI q) < (nI t)) => ?_)
    · refine r_run okX12_found 1 (cs := []) (σ' := (109, [some (.ref 100), some (.int (nI p)), some (.int (nI q)), some (.int acc), some (.int (nI t)), none], [.int acc], (SS b c), I, J, 0, 0)) rfl trivial ?_
      refine r_iret okX12_found rfl rfl rfl (Nat.le_refl _) (Nat.le_refl _) ?_
      exact ⟨rfl, rfl, rfl, rfl⟩
    · exact absurd (nI_lt (by omega) (by omega)) h32
  | succ j ih =>
    intro t acc hj
    cases t with
    | zero =>
      obtain ⟨v, hv, ev⟩ := hTr 0 (by decide)
      have ct : (nI 0).toNatClampNeg = 0 := nI_clamp (by decide)
      refine r_run okX12_found 2 (cs := []) (σ' := (32, [some (.ref 100), some (.int (nI p)), some (.int (nI q)), some (.int acc), some (.int (nI 0)), none], [.int (nI q), .int (nI 0)], (SS b c), I, J, 0, 0)) rfl trivial ?_
      refine r_icmp okX12_found rfl (fun (h32 : (nI q) < (nI 0)) => ?_) (fun (h32 : ¬ (nI q) < (nI 0)) => ?_)
      · exact absurd h32 (nI_nlt (by omega) (by omega))
      · refine r_run okX12_found 4 (cs := [vp_in (nI 0) 720]) (σ' := (42, [some (.ref 100), some (.int (nI p)), some (.int (nI q)), some (.int acc), some (.int (nI 0)), none], [.int (I 139 ((nI 0).toNatClampNeg))], (SS b c), I, J, 0, 0)) rfl ⟨(vin (by omega) (by decide)), trivial⟩ ?_
        simp only [ct]
        show Rj _ _ _ _ _ _ (42, [some (.ref 100), some (.int (nI p)), some (.int (nI q)), some (.int acc), some (.int (nI 0)), none], [.int (I 139 0)], (SS b c), I, J, 0, 0)
        refine r_ifc okX12_found rfl (fun (h42 : (I 139 0) = (0 : Int32)) => ?_) (fun (h42 : ¬ (I 139 0) = (0 : Int32)) => ?_)
        · refine r_run okX12_found 2 (cs := []) (σ' := (29, [some (.ref 100), some (.int (nI p)), some (.int (nI q)), some (.int acc), some (.int (nI 0 + 1)), none], [], (SS b c), I, J, 0, 0)) rfl trivial ?_
          rw [← nI_succ]
          refine r_weak (L' := [some (.ref 100), some (.int (nI p)), some (.int (nI q)), some (.int acc), some (.int (nI (0 + 1))), none]) ⟨rfl, rfl, rfl, rfl, rfl, trivial⟩ ?_
          rw [fndS, if_pos (Or.inl h42)]
          exact ih (0 + 1) acc (by omega)
        · have v0 : 0 < v := Nat.pos_of_ne_zero fun e => h42 (by rw [ev, e]; exact nI_0)
          have e1 : I 139 0 - 1 = nI (v - 1) := by rw [ev, show v = v - 1 + 1 by omega, nI_pred]; rfl
          have cv : (I 139 0 - 1).toNatClampNeg = v - 1 := by rw [e1]; exact nI_clamp (by omega)
          have vv : vp_in (I 139 0 - 1) 96 := by rw [e1]; exact vin (by omega) (by decide)
          refine r_run okX12_found 1 (cs := []) (σ' := (47, [some (.ref 100), some (.int (nI p)), some (.int (nI q)), some (.int acc), some (.int (nI 0)), none], [.int (nI 0)], (SS b c), I, J, 0, 0)) rfl trivial ?_
          refine r_ifc okX12_found rfl (fun (h47 : (nI 0) ≤ (0 : Int32)) => ?_) (fun (h47 : ¬ (nI 0) ≤ (0 : Int32)) => ?_)
          · refine r_run okX12_found 16 (cs := [vp_in (nI 0) 720, vp_in ((I 139 ((nI 0).toNatClampNeg)) - 1) 96]) (σ' := (97, [some (.ref 100), some (.int (nI p)), some (.int (nI q)), some (.int acc), some (.int (nI 0)), some (.int ((I 139 ((nI 0).toNatClampNeg)) - 1))], [.int ((I 139 ((nI 0).toNatClampNeg)) - 1), .int (nI 0), .ref 100, .int (acc + (I 102 (((I 139 ((nI 0).toNatClampNeg)) - 1).toNatClampNeg)))], (SS b c), I, J, 0, 0)) rfl ⟨(vin (by omega) (by decide)), (by first | exact vv | (rw [ct]; exact vv)), trivial⟩ ?_
            simp only [ct, cv]
            show Rj _ _ _ _ _ _ (97, [some (.ref 100), some (.int (nI p)), some (.int (nI q)), some (.int acc), some (.int (nI 0)), some (.int ((I 139 0) - 1))], [.int ((I 139 0) - 1), .int (nI 0), .ref 100, .int (acc + (I 102 (v - 1)))], (SS b c), I, J, 0, 0)
            refine r_callV okX12_found okX12_safeAt [.int (nI 0), .int ((I 139 0) - 1)] [.int (acc + (I 102 (v - 1)))] 100 rfl rfl rfl kkX12_safeAt rfl rfl (by decide) rfl rfl rfl (by decide) ⟨Nat.le_refl _, Nat.le_refl _⟩ (Nat.le_of_ble_eq_true rfl) (c_safeAt γ hI _ (v - 1) (by omega) e1) (fun v1 S1 I1 J1 hp => ?_)
            obtain ⟨rfl, rfl, rfl, rfl⟩ := hp
            show Rj _ _ _ _ _ _ (100, [some (.ref 100), some (.int (nI p)), some (.int (nI q)), some (.int acc), some (.int (nI 0)), some (.int ((I 139 0) - 1))], [.int (safV I (nI 0) (v - 1)), .int (acc + (I 102 (v - 1)))], (SS b c), I, J, 0, 0)
            refine r_run okX12_found 4 (cs := []) (σ' := (29, [some (.ref 100), some (.int (nI p)), some (.int (nI q)), some (.int ((acc + (I 102 (v - 1))) - (safV I (nI 0) (v - 1)))), some (.int (nI 0 + 1)), some (.int ((I 139 0) - 1))], [], (SS b c), I, J, 0, 0)) rfl trivial ?_
            rw [← nI_succ]
            refine r_weak (L' := [some (.ref 100), some (.int (nI p)), some (.int (nI q)), some (.int ((acc + (I 102 (v - 1))) - (safV I (nI 0) (v - 1)))), some (.int (nI (0 + 1))), none]) ⟨rfl, rfl, rfl, rfl, rfl, trivial⟩ ?_
            rw [fndS, if_neg (fun z => z.elim h42 (fun z => absurd z.1 (by omega))), show nv (I 139 0) = v by rw [ev, nv_nI (by omega)]]
            exact ih (0 + 1) _ (by omega)
          · exact absurd (by rw [nI_0]; decide) h47
    | succ s =>
      obtain ⟨v, hv, ev⟩ := hTr (s + 1) (by omega)
      have ct : (nI (s + 1)).toNatClampNeg = s + 1 := nI_clamp (by omega)
      have cs : (nI (s + 1) - 1).toNatClampNeg = s := by rw [nI_pred]; exact nI_clamp (by omega)
      refine r_run okX12_found 2 (cs := []) (σ' := (32, [some (.ref 100), some (.int (nI p)), some (.int (nI q)), some (.int acc), some (.int (nI (s + 1))), none], [.int (nI q), .int (nI (s + 1))], (SS b c), I, J, 0, 0)) rfl trivial ?_
      refine r_icmp okX12_found rfl (fun (h32 : (nI q) < (nI (s + 1))) => ?_) (fun (h32 : ¬ (nI q) < (nI (s + 1))) => ?_)
      · exact absurd h32 (nI_nlt (by omega) (by omega))
      · refine r_run okX12_found 4 (cs := [vp_in (nI (s + 1)) 720]) (σ' := (42, [some (.ref 100), some (.int (nI p)), some (.int (nI q)), some (.int acc), some (.int (nI (s + 1))), none], [.int (I 139 ((nI (s + 1)).toNatClampNeg))], (SS b c), I, J, 0, 0)) rfl ⟨(vin (by omega) (by decide)), trivial⟩ ?_
        simp only [ct]
        show Rj _ _ _ _ _ _ (42, [some (.ref 100), some (.int (nI p)), some (.int (nI q)), some (.int acc), some (.int (nI (s + 1))), none], [.int (I 139 (s + 1))], (SS b c), I, J, 0, 0)
        refine r_ifc okX12_found rfl (fun (h42 : (I 139 (s + 1)) = (0 : Int32)) => ?_) (fun (h42 : ¬ (I 139 (s + 1)) = (0 : Int32)) => ?_)
        · refine r_run okX12_found 2 (cs := []) (σ' := (29, [some (.ref 100), some (.int (nI p)), some (.int (nI q)), some (.int acc), some (.int (nI (s + 1) + 1)), none], [], (SS b c), I, J, 0, 0)) rfl trivial ?_
          rw [← nI_succ]
          refine r_weak (L' := [some (.ref 100), some (.int (nI p)), some (.int (nI q)), some (.int acc), some (.int (nI ((s + 1) + 1))), none]) ⟨rfl, rfl, rfl, rfl, rfl, trivial⟩ ?_
          rw [fndS, if_pos (Or.inl h42)]
          exact ih ((s + 1) + 1) acc (by omega)
        · have v0 : 0 < v := Nat.pos_of_ne_zero fun e => h42 (by rw [ev, e]; exact nI_0)
          have e1 : I 139 (s + 1) - 1 = nI (v - 1) := by rw [ev, show v = v - 1 + 1 by omega, nI_pred]; rfl
          have cv : (I 139 (s + 1) - 1).toNatClampNeg = v - 1 := by rw [e1]; exact nI_clamp (by omega)
          have vv : vp_in (I 139 (s + 1) - 1) 96 := by rw [e1]; exact vin (by omega) (by decide)
          refine r_run okX12_found 1 (cs := []) (σ' := (47, [some (.ref 100), some (.int (nI p)), some (.int (nI q)), some (.int acc), some (.int (nI (s + 1))), none], [.int (nI (s + 1))], (SS b c), I, J, 0, 0)) rfl trivial ?_
          refine r_ifc okX12_found rfl (fun (h47 : (nI (s + 1)) ≤ (0 : Int32)) => ?_) (fun (h47 : ¬ (nI (s + 1)) ≤ (0 : Int32)) => ?_)
          · exact absurd h47 (nI_nle (by omega) (by omega))
          · refine r_run okX12_found 10 (cs := [vp_in ((nI (s + 1)) - 1) 720, vp_in (nI (s + 1)) 720]) (σ' := (66, [some (.ref 100), some (.int (nI p)), some (.int (nI q)), some (.int acc), some (.int (nI (s + 1))), none], [.int (I 139 ((nI (s + 1)).toNatClampNeg)), .int (I 139 (((nI (s + 1)) - 1).toNatClampNeg))], (SS b c), I, J, 0, 0)) rfl ⟨(by rw [nI_pred]; exact vin (by omega) (by decide)), (vin (by omega) (by decide)), trivial⟩ ?_
            simp only [ct, cs]
            show Rj _ _ _ _ _ _ (66, [some (.ref 100), some (.int (nI p)), some (.int (nI q)), some (.int acc), some (.int (nI (s + 1))), none], [.int (I 139 (s + 1)), .int (I 139 s)], (SS b c), I, J, 0, 0)
            refine r_icmp okX12_found rfl (fun (h66 : ¬ (I 139 s) = (I 139 (s + 1))) => ?_) (fun h660 => ?_)
            · refine r_run okX12_found 16 (cs := [vp_in (nI (s + 1)) 720, vp_in ((I 139 ((nI (s + 1)).toNatClampNeg)) - 1) 96]) (σ' := (97, [some (.ref 100), some (.int (nI p)), some (.int (nI q)), some (.int acc), some (.int (nI (s + 1))), some (.int ((I 139 ((nI (s + 1)).toNatClampNeg)) - 1))], [.int ((I 139 ((nI (s + 1)).toNatClampNeg)) - 1), .int (nI (s + 1)), .ref 100, .int (acc + (I 102 (((I 139 ((nI (s + 1)).toNatClampNeg)) - 1).toNatClampNeg)))], (SS b c), I, J, 0, 0)) rfl ⟨(vin (by omega) (by decide)), (by first | exact vv | (rw [ct]; exact vv)), trivial⟩ ?_
              simp only [ct, cv]
              show Rj _ _ _ _ _ _ (97, [some (.ref 100), some (.int (nI p)), some (.int (nI q)), some (.int acc), some (.int (nI (s + 1))), some (.int ((I 139 (s + 1)) - 1))], [.int ((I 139 (s + 1)) - 1), .int (nI (s + 1)), .ref 100, .int (acc + (I 102 (v - 1)))], (SS b c), I, J, 0, 0)
              refine r_callV okX12_found okX12_safeAt [.int (nI (s + 1)), .int ((I 139 (s + 1)) - 1)] [.int (acc + (I 102 (v - 1)))] 100 rfl rfl rfl kkX12_safeAt rfl rfl (by decide) rfl rfl rfl (by decide) ⟨Nat.le_refl _, Nat.le_refl _⟩ (Nat.le_of_ble_eq_true rfl) (c_safeAt γ hI _ (v - 1) (by omega) e1) (fun v1 S1 I1 J1 hp => ?_)
              obtain ⟨rfl, rfl, rfl, rfl⟩ := hp
              show Rj _ _ _ _ _ _ (100, [some (.ref 100), some (.int (nI p)), some (.int (nI q)), some (.int acc), some (.int (nI (s + 1))), some (.int ((I 139 (s + 1)) - 1))], [.int (safV I (nI (s + 1)) (v - 1)), .int (acc + (I 102 (v - 1)))], (SS b c), I, J, 0, 0)
              refine r_run okX12_found 4 (cs := []) (σ' := (29, [some (.ref 100), some (.int (nI p)), some (.int (nI q)), some (.int ((acc + (I 102 (v - 1))) - (safV I (nI (s + 1)) (v - 1)))), some (.int (nI (s + 1) + 1)), some (.int ((I 139 (s + 1)) - 1))], [], (SS b c), I, J, 0, 0)) rfl trivial ?_
              rw [← nI_succ]
              refine r_weak (L' := [some (.ref 100), some (.int (nI p)), some (.int (nI q)), some (.int ((acc + (I 102 (v - 1))) - (safV I (nI (s + 1)) (v - 1)))), some (.int (nI ((s + 1) + 1))), none]) ⟨rfl, rfl, rfl, rfl, rfl, trivial⟩ ?_
              rw [fndS, if_neg (fun z => z.elim h42 (fun z => h66 z.2)), show nv (I 139 (s + 1)) = v by rw [ev, nv_nI (by omega)]]
              exact ih ((s + 1) + 1) _ (by omega)
            · have h66 : (I 139 s) = (I 139 (s + 1)) := Classical.not_not.mp h660
              refine r_run okX12_found 3 (cs := []) (σ' := (29, [some (.ref 100), some (.int (nI p)), some (.int (nI q)), some (.int acc), some (.int (nI (s + 1) + 1)), none], [], (SS b c), I, J, 0, 0)) rfl trivial ?_
              rw [← nI_succ]
              refine r_weak (L' := [some (.ref 100), some (.int (nI p)), some (.int (nI q)), some (.int acc), some (.int (nI ((s + 1) + 1))), none]) ⟨rfl, rfl, rfl, rfl, rfl, trivial⟩ ?_
              rw [fndS, if_pos (Or.inr ⟨by omega, h66⟩)]
              exact ih ((s + 1) + 1) acc (by omega)
theorem c_Mfound (γ : GE) {b c : Bool} {I : AI} {J : AJ} (hT : I 100 0 = 0) (hI : MWar I) (hL : MLand I) (hTr : MTru I) (x y : Int32) : Ct γ mX12_found 3 0 0 [.ref 100, .int x, .int y] (SS b c) I J (rI (fndV I x y) (SS b c) I J) := by
  have ht := told0 hT
  refine ct_of okX12_found (L := [some (.ref 100), some (.int x), some (.int y), none, none, none]) (Nat.le_of_ble_eq_true rfl) rfl ?_
  refine r_run okX12_found 4 (cs := []) (σ' := (6, [some (.ref 100), some (.int x), some (.int y), none, none, none], [.int x], (SS b c), (upI I 100 0 0), J, 0, 0)) rfl trivial ?_
  simp only [ht]
  show Rj _ _ _ _ _ _ (6, [some (.ref 100), some (.int x), some (.int y), none, none, none], [.int x], (SS b c), I, J, 0, 0)
  refine r_ifc okX12_found rfl (fun (h6 : x < (0 : Int32)) => ?_) (fun (h6 : ¬ x < (0 : Int32)) => ?_)
  · refine r_run okX12_found 1 (cs := []) (σ' := (23, [some (.ref 100), some (.int x), some (.int y), none, none, none], [.int (-1)], (SS b c), I, J, 0, 0)) rfl trivial ?_
    refine r_iret okX12_found rfl rfl rfl (Nat.le_refl _) (Nat.le_refl _) ?_
    refine ⟨?_, rfl, rfl, rfl⟩
    simp [fndV, fndB, *]
  · refine r_run okX12_found 2 (cs := []) (σ' := (11, [some (.ref 100), some (.int x), some (.int y), none, none, none], [.int x, .int y], (SS b c), I, J, 0, 0)) rfl trivial ?_
    refine r_icmp okX12_found rfl (fun (h11 : y < x) => ?_) (fun (h11 : ¬ y < x) => ?_)
    · refine r_run okX12_found 1 (cs := []) (σ' := (23, [some (.ref 100), some (.int x), some (.int y), none, none, none], [.int (-1)], (SS b c), I, J, 0, 0)) rfl trivial ?_
      refine r_iret okX12_found rfl rfl rfl (Nat.le_refl _) (Nat.le_refl _) ?_
      refine ⟨?_, rfl, rfl, rfl⟩
      simp [fndV, fndB, *]
    · refine r_run okX12_found 3 (cs := []) (σ' := (19, [some (.ref 100), some (.int x), some (.int y), none, none, none], [.int (I 100 5), .int y], (SS b c), I, J, 0, 0)) rfl trivial ?_
      refine r_icmp okX12_found rfl (fun (h19 : y ≤ (I 100 5)) => ?_) (fun (h19 : ¬ y ≤ (I 100 5)) => ?_)
      · obtain ⟨z, hz, ez⟩ := hI.2.1
        obtain ⟨p, hp, rfl⟩ := nI_of h6
        obtain ⟨q, hq, rfl⟩ := nI_of (x := y) (fun z => h6 (Int32.lt_of_le_of_lt (Int32.not_lt.mp h11) z))
        refine r_run okX12_found 4 (cs := []) (σ' := (29, [some (.ref 100), some (.int (nI p)), some (.int (nI q)), some (.int 0), some (.int (nI p)), none], [], (SS b c), I, J, 0, 0)) rfl trivial ?_
        have h1 : p ≤ q := Nat.le_of_not_lt fun z => h11 (nI_lt z hp)
        have h2 : q ≤ z := Nat.le_of_not_lt fun u => absurd h19 (by rw [ez]; exact nI_ge u hq)
        have hb : fndB I (nI p) (nI q) = true := by simp [fndB, h6, h11, h19]
        rw [fndV, hb, if_pos rfl, nv_nI (by omega), nv_nI (by omega)]
        exact lp_found γ hI hTr p q (by omega) _ p 0 (by omega)
      · refine r_run okX12_found 1 (cs := []) (σ' := (23, [some (.ref 100), some (.int x), some (.int y), none, none, none], [.int (-1)], (SS b c), I, J, 0, 0)) rfl trivial ?_
        refine r_iret okX12_found rfl rfl rfl (Nat.le_refl _) (Nat.le_refl _) ?_
        refine ⟨?_, rfl, rfl, rfl⟩
        simp [fndV, fndB, *]
def trI (I : AI) (n : Nat) (y : Int32) : Bool := decide (0 < I 139 n) && decide (I 101 (nv (I 139 n) - 1) = y)
theorem c_isTrueIn0 (γ : GE) {b c : Bool} {I : AI} {J : AJ} (hTr : MTru I) (n : Nat) (hn : n < 720) (y : Int32) : Ct γ mX12_isTrueIn 0 0 0 [.ref 100, .int (nI n), .int y] (SS b c) I J (rI (bi (trI I n y)) (SS b c) I J) := by
  obtain ⟨v, hv, ev⟩ := hTr n hn
  have cn : (nI n).toNatClampNeg = n := nI_clamp (by omega)
  refine ct_of okX12_isTrueIn (L := [some (.ref 100), some (.int (nI n)), some (.int y)]) (Nat.le_of_ble_eq_true rfl) rfl ?_
  refine r_run okX12_isTrueIn 1 (cs := []) (σ' := (1, [some (.ref 100), some (.int (nI n)), some (.int y)], [.int (nI n)], (SS b c), I, J, 0, 0)) rfl trivial ?_
  refine r_ifc okX12_isTrueIn rfl (fun (h1 : (nI n) < (0 : Int32)) => ?_) (fun (h1 : ¬ (nI n) < (0 : Int32)) => ?_)
  · exact absurd h1 (nI_pos (by omega))
  · refine r_run okX12_isTrueIn 4 (cs := [vp_in (nI n) 720]) (σ' := (10, [some (.ref 100), some (.int (nI n)), some (.int y)], [.int (I 139 ((nI n).toNatClampNeg))], (SS b c), I, J, 0, 0)) rfl ⟨(vin hn (by decide)), trivial⟩ ?_
    simp only [cn]
    show Rj _ _ _ _ _ _ (10, [some (.ref 100), some (.int (nI n)), some (.int y)], [.int (I 139 n)], (SS b c), I, J, 0, 0)
    refine r_ifc okX12_isTrueIn rfl (fun (h10 : (I 139 n) ≤ (0 : Int32)) => ?_) (fun (h10 : ¬ (I 139 n) ≤ (0 : Int32)) => ?_)
    · have h10a := Int32.not_lt.mpr h10
      refine r_run okX12_isTrueIn 1 (cs := []) (σ' := (35, [some (.ref 100), some (.int (nI n)), some (.int y)], [.int 0], (SS b c), I, J, 0, 0)) rfl trivial ?_
      refine r_iret okX12_isTrueIn rfl rfl (by decide +kernel) (Nat.le_refl _) (Nat.le_refl _) ?_
      refine ⟨?_, rfl, rfl, rfl⟩
      unfold trI
      rw [show nv (I 139 n) = v by rw [ev, nv_nI (by omega)]]
      clear ev
      simp [bi_t, bi_f, *]
    · have h10a := Int32.not_le.mp h10
      have v0 : 0 < v := Nat.pos_of_ne_zero fun e => h10 (by rw [ev, e, nI_0]; decide)
      have e1 : I 139 n - 1 = nI (v - 1) := by rw [ev, show v = v - 1 + 1 by omega, nI_pred]; rfl
      have cv : (I 139 n - 1).toNatClampNeg = v - 1 := by rw [e1]; exact nI_clamp (by omega)
      have cv0 : (I 139 (nI n).toNatClampNeg - 1).toNatClampNeg = v - 1 := by rw [cn]; exact cv
      have vv : vp_in (I 139 (nI n).toNatClampNeg - 1) 96 := by rw [cn, e1]; exact vin (by omega) (by decide)
      refine r_run okX12_isTrueIn 10 (cs := [vp_in (nI n) 720, vp_in ((I 139 ((nI n).toNatClampNeg)) - 1) 96]) (σ' := (27, [some (.ref 100), some (.int (nI n)), some (.int y)], [.int y, .int (I 101 (((I 139 ((nI n).toNatClampNeg)) - 1).toNatClampNeg))], (SS b c), I, J, 0, 0)) rfl ⟨(vin hn (by decide)), vv, trivial⟩ ?_
      simp only [cn, cv]
      show Rj _ _ _ _ _ _ (27, [some (.ref 100), some (.int (nI n)), some (.int y)], [.int y, .int (I 101 (v - 1))], (SS b c), I, J, 0, 0)
      refine r_icmp okX12_isTrueIn rfl (fun (h27 : ¬ (I 101 (v - 1)) = y) => ?_) (fun h270 => ?_)
      · refine r_run okX12_isTrueIn 1 (cs := []) (σ' := (35, [some (.ref 100), some (.int (nI n)), some (.int y)], [.int 0], (SS b c), I, J, 0, 0)) rfl trivial ?_
        refine r_iret okX12_isTrueIn rfl rfl (by decide +kernel) (Nat.le_refl _) (Nat.le_refl _) ?_
        refine ⟨?_, rfl, rfl, rfl⟩
        unfold trI
        rw [show nv (I 139 n) = v by rw [ev, nv_nI (by omega)]]
        clear ev
        simp [bi_t, bi_f, *]
      · have h27 : (I 101 (v - 1)) = y := Classical.not_not.mp h270
        refine r_run okX12_isTrueIn 2 (cs := []) (σ' := (35, [some (.ref 100), some (.int (nI n)), some (.int y)], [.int 1], (SS b c), I, J, 0, 0)) rfl trivial ?_
        refine r_iret okX12_isTrueIn rfl rfl (by decide +kernel) (Nat.le_refl _) (Nat.le_refl _) ?_
        refine ⟨?_, rfl, rfl, rfl⟩
        unfold trI
        rw [show nv (I 139 n) = v by rw [ev, nv_nI (by omega)]]
        clear ev
        simp [bi_t, bi_f, *]
theorem c_isTrueInM (γ : GE) {b c : Bool} {I : AI} {J : AJ} (x y : Int32) (hx : x = -1) : Ct γ mX12_isTrueIn 0 0 0 [.ref 100, .int x, .int y] (SS b c) I J (rI 0 (SS b c) I J) := by
  refine ct_of okX12_isTrueIn (L := [some (.ref 100), some (.int x), some (.int y)]) (Nat.le_of_ble_eq_true rfl) rfl ?_
  refine r_run okX12_isTrueIn 1 (cs := []) (σ' := (1, [some (.ref 100), some (.int x), some (.int y)], [.int x], (SS b c), I, J, 0, 0)) rfl trivial ?_
  refine r_ifc okX12_isTrueIn rfl (fun (h1 : x < (0 : Int32)) => ?_) (fun (h1 : ¬ x < (0 : Int32)) => ?_)
  · refine r_run okX12_isTrueIn 1 (cs := []) (σ' := (35, [some (.ref 100), some (.int x), some (.int y)], [.int 0], (SS b c), I, J, 0, 0)) rfl trivial ?_
    refine r_iret okX12_isTrueIn rfl rfl (by decide +kernel) (Nat.le_refl _) (Nat.le_refl _) ?_
    exact ⟨rfl, rfl, rfl, rfl⟩
  · exact absurd (by rw [hx]; decide) h1
theorem c_isTrueIn1 (γ : GE) {b c : Bool} {I : AI} {J : AJ} (hTr : MTru I) (n : Nat) (hn : n < 720) (y : Int32) {x : Int32} (ex : x = nI n) : Ct γ mX12_isTrueIn 0 0 0 [.ref 100, .int x, .int y] (SS b c) I J (rI (bi (trI I n y)) (SS b c) I J) := by
  subst ex; exact c_isTrueIn0 γ hTr n hn y
def enI (I : AI) (t : Nat) (y : Int32) : Bool := trI I t y && !(match t with | 0 => false | s + 1 => trI I s y)
def enS (I : AI) (y : Int32) : Nat → Nat → Nat → Nat → Int32 → Nat × Nat × Int32
  | 0, _, n, m, l => (n, m, l)
  | j + 1, t, n, m, l => if enI I t y then (match thr I y (nI t) with | none => enS I y j (t + 1) (n + 1) (m + 1) l | some w => enS I y j (t + 1) (n + 1) m (l + nI t - I 128 w)) else enS I y j (t + 1) n m l
def entV (I : AI) (y w : Int32) : Int32 := if ctyB y && inB w 0 2 then (if w = 0 then nI (enS I y (nv (I 100 5) + 1) 0 0 0 0).1 else if w = 1 then nI (enS I y (nv (I 100 5) + 1) 0 0 0 0).2.1 else (enS I y (nv (I 100 5) + 1) 0 0 0 0).2.2) else -1
theorem lp_entries (γ : GE) {b c : Bool} {I : AI} {J : AJ} (hI : MWar I) (hTr : MTru I) (y w : Int32) (k : Nat) (hk : k < 720) (ek : I 100 5 = nI k) : ∀ (j t n m : Nat) (l : Int32), t + j = k + 1 → Rj γ mX12_entries 2 0 0 (rI (if w = 0 then nI (enS I y j t n m l).1 else if w = 1 then nI (enS I y j t n m l).2.1 else (enS I y j t n m l).2.2) (SS b c) I J) (36, [some (.ref 100), some (.int y), some (.int w), some (.int (nI n)), some (.int (nI m)), some (.int l), some (.int (nI t)), none], [], (SS b c), I, J, 0, 0) := by
  intro j
  induction j with
  | zero =>
    intro t n m l hj
    refine r_run okX12_entries 3 (cs := []) (σ' := (42, [some (.ref 100), some (.int y), some (.int w), some (.int (nI n)), some (.int (nI m)), some (.int l), some (.int (nI t)), none], [.int (I 100 5), .int (nI t)], (SS b c), I, J, 0, 0)) rfl trivial ?_
    refine r_icmp okX12_entries rfl (fun (h42 : (I 100 5) < (nI t)) => ?_) (fun (h42 : ¬ (I 100 5) < (nI t)) => ?_)
    · refine r_run okX12_entries 1 (cs := []) (σ' := (120, [some (.ref 100), some (.int y), some (.int w), some (.int (nI n)), some (.int (nI m)), some (.int l), some (.int (nI t)), none], [.int w], (SS b c), I, J, 0, 0)) rfl trivial ?_
      refine r_ifc okX12_entries rfl (fun (h120 : ¬ w = (0 : Int32)) => ?_) (fun h1200 => ?_)
      · refine r_run okX12_entries 2 (cs := []) (σ' := (129, [some (.ref 100), some (.int y), some (.int w), some (.int (nI n)), some (.int (nI m)), some (.int l), some (.int (nI t)), none], [.int 1, .int w], (SS b c), I, J, 0, 0)) rfl trivial ?_
        refine r_icmp okX12_entries rfl (fun (h129 : ¬ w = (1 : Int32)) => ?_) (fun h1290 => ?_)
        · refine r_run okX12_entries 1 (cs := []) (σ' := (139, [some (.ref 100), some (.int y), some (.int w), some (.int (nI n)), some (.int (nI m)), some (.int l), some (.int (nI t)), none], [.int l], (SS b c), I, J, 0, 0)) rfl trivial ?_
          refine r_iret okX12_entries rfl rfl rfl (Nat.le_refl _) (Nat.le_refl _) ?_
          exact ⟨by simp [enS, *], rfl, rfl, rfl⟩
        · have h129 : w = (1 : Int32) := Classical.not_not.mp h1290
          refine r_run okX12_entries 2 (cs := []) (σ' := (139, [some (.ref 100), some (.int y), some (.int w), some (.int (nI n)), some (.int (nI m)), some (.int l), some (.int (nI t)), none], [.int (nI m)], (SS b c), I, J, 0, 0)) rfl trivial ?_
          refine r_iret okX12_entries rfl rfl rfl (Nat.le_refl _) (Nat.le_refl _) ?_
          exact ⟨by simp [enS, *], rfl, rfl, rfl⟩
      · have h120 : w = (0 : Int32) := Classical.not_not.mp h1200
        refine r_run okX12_entries 2 (cs := []) (σ' := (139, [some (.ref 100), some (.int y), some (.int w), some (.int (nI n)), some (.int (nI m)), some (.int l), some (.int (nI t)), none], [.int (nI n)], (SS b c), I, J, 0, 0)) rfl trivial ?_
        refine r_iret okX12_entries rfl rfl rfl (Nat.le_refl _) (Nat.le_refl _) ?_
        exact ⟨by simp [enS, *], rfl, rfl, rfl⟩
    · exact absurd (by rw [ek]; exact nI_lt (by omega) (by omega)) h42
  | succ j ih =>
    intro t n m l hj
    cases he : thr I y (nI t) with
    | none =>
      cases t with
      | zero =>
        refine r_run okX12_entries 3 (cs := []) (σ' := (42, [some (.ref 100), some (.int y), some (.int w), some (.int (nI n)), some (.int (nI m)), some (.int l), some (.int (nI 0)), none], [.int (I 100 5), .int (nI 0)], (SS b c), I, J, 0, 0)) rfl trivial ?_
        refine r_icmp okX12_entries rfl (fun (h42 : (I 100 5) < (nI 0)) => ?_) (fun (h42 : ¬ (I 100 5) < (nI 0)) => ?_)
        · exact absurd h42 (by rw [ek]; exact nI_nlt (by omega) (by omega))
        · refine r_run okX12_entries 3 (cs := []) (σ' := (49, [some (.ref 100), some (.int y), some (.int w), some (.int (nI n)), some (.int (nI m)), some (.int l), some (.int (nI 0)), none], [.int y, .int (nI 0), .ref 100], (SS b c), I, J, 0, 0)) rfl trivial ?_
          refine r_callV okX12_entries okX12_isTrueIn [.int (nI 0), .int y] [] 100 rfl rfl rfl kkX12_isTrueIn rfl rfl (by decide) rfl rfl rfl (by decide) ⟨Nat.le_refl _, Nat.le_refl _⟩ (Nat.le_of_ble_eq_true rfl) (c_isTrueIn0 γ hTr 0 (by omega) y) (fun v1 S1 I1 J1 hp => ?_)
          obtain ⟨rfl, rfl, rfl, rfl⟩ := hp
          show Rj _ _ _ _ _ _ (52, [some (.ref 100), some (.int y), some (.int w), some (.int (nI n)), some (.int (nI m)), some (.int l), some (.int (nI 0)), none], [.int (bi (trI I 0 y))], (SS b c), I, J, 0, 0)
          refine r_ifc okX12_entries rfl (fun (h52 : (bi (trI I 0 y)) = (0 : Int32)) => ?_) (fun (h52 : ¬ (bi (trI I 0 y)) = (0 : Int32)) => ?_)
          · have h52s := bi_0.mp h52
            refine r_run okX12_entries 2 (cs := []) (σ' := (36, [some (.ref 100), some (.int y), some (.int w), some (.int (nI n)), some (.int (nI m)), some (.int l), some (.int (nI 0 + 1)), none], [], (SS b c), I, J, 0, 0)) rfl trivial ?_
            simp only [← nI_succ]
            refine r_weak (L' := [some (.ref 100), some (.int y), some (.int w), some (.int (nI n)), some (.int (nI m)), some (.int l), some (.int (nI (0 + 1))), none]) ⟨rfl, rfl, rfl, rfl, rfl, rfl, rfl, trivial⟩ ?_
            have e : enS I y (j + 1) 0 n m l = enS I y j (0 + 1) n m l := by rw [enS]; simp [enI, *]
            rw [e]
            exact ih (0 + 1) n m _ (by omega)
          · have h52s := bi_n0.mp h52
            refine r_run okX12_entries 5 (cs := []) (σ' := (61, [some (.ref 100), some (.int y), some (.int w), some (.int (nI n)), some (.int (nI m)), some (.int l), some (.int (nI 0)), none], [.int y, .int ((nI 0) - 1), .ref 100], (SS b c), I, J, 0, 0)) rfl trivial ?_
            refine r_callV okX12_entries okX12_isTrueIn [.int ((nI 0) - 1), .int y] [] 100 rfl rfl rfl kkX12_isTrueIn rfl rfl (by decide) rfl rfl rfl (by decide) ⟨Nat.le_refl _, Nat.le_refl _⟩ (Nat.le_of_ble_eq_true rfl) (c_isTrueInM γ _ y (by rw [nI_0]; decide)) (fun v1 S1 I1 J1 hp => ?_)
            obtain ⟨rfl, rfl, rfl, rfl⟩ := hp
            show Rj _ _ _ _ _ _ (64, [some (.ref 100), some (.int y), some (.int w), some (.int (nI n)), some (.int (nI m)), some (.int l), some (.int (nI 0)), none], [.int 0], (SS b c), I, J, 0, 0)
            refine r_ifc okX12_entries rfl (fun (h64 : (0 : Int32) = (0 : Int32)) => ?_) (fun (h64 : ¬ (0 : Int32) = (0 : Int32)) => ?_)
            · refine r_run okX12_entries 7 (cs := []) (σ' := (78, [some (.ref 100), some (.int y), some (.int w), some (.int ((nI n) + 1)), some (.int (nI m)), some (.int l), some (.int (nI 0)), none], [.int (nI 0), .int y, .ref 100], (SS b c), I, J, 0, 0)) rfl trivial ?_
              refine r_callV okX12_entries okX12_thereAt [.int y, .int (nI 0)] [] 100 rfl rfl rfl kkX12_thereAt rfl rfl (by decide) rfl rfl rfl (by decide) ⟨Nat.le_refl _, Nat.le_refl _⟩ (Nat.le_of_ble_eq_true rfl) (c_thereAt1 γ hI.1 (by rw [he]; try rfl)) (fun v1 S1 I1 J1 hp => ?_)
              obtain ⟨rfl, rfl, rfl, rfl⟩ := hp
              show Rj _ _ _ _ _ _ (81, [some (.ref 100), some (.int y), some (.int w), some (.int ((nI n) + 1)), some (.int (nI m)), some (.int l), some (.int (nI 0)), none], [.int (-1)], (SS b c), I, J, 0, 0)
              refine r_run okX12_entries 3 (cs := []) (σ' := (86, [some (.ref 100), some (.int y), some (.int w), some (.int ((nI n) + 1)), some (.int (nI m)), some (.int l), some (.int (nI 0)), some (.int (-1))], [.int (-1), .int (-1)], (SS b c), I, J, 0, 0)) rfl trivial ?_
              refine r_icmp okX12_entries rfl (fun (h86 : ¬ ((-1) : Int32) = ((-1) : Int32)) => ?_) (fun h860 => ?_)
              · exact absurd h86 (by decide)
              · have h86 : ((-1) : Int32) = ((-1) : Int32) := Classical.not_not.mp h860
                refine r_run okX12_entries 7 (cs := []) (σ' := (36, [some (.ref 100), some (.int y), some (.int w), some (.int ((nI n) + 1)), some (.int ((nI m) + 1)), some (.int l), some (.int (nI 0 + 1)), some (.int (-1))], [], (SS b c), I, J, 0, 0)) rfl trivial ?_
                simp only [← nI_succ]
                refine r_weak (L' := [some (.ref 100), some (.int y), some (.int w), some (.int (nI (n + 1))), some (.int (nI (m + 1))), some (.int l), some (.int (nI (0 + 1))), none]) ⟨rfl, rfl, rfl, rfl, rfl, rfl, rfl, trivial⟩ ?_
                have e : enS I y (j + 1) 0 n m l = enS I y j (0 + 1) (n + 1) (m + 1) l := by rw [enS]; simp [enI, *]
                rw [e]
                exact ih (0 + 1) (n + 1) (m + 1) _ (by omega)
            · exact absurd h64 (by decide)
      | succ s =>
        refine r_run okX12_entries 3 (cs := []) (σ' := (42, [some (.ref 100), some (.int y), some (.int w), some (.int (nI n)), some (.int (nI m)), some (.int l), some (.int (nI (s + 1))), none], [.int (I 100 5), .int (nI (s + 1))], (SS b c), I, J, 0, 0)) rfl trivial ?_
        refine r_icmp okX12_entries rfl (fun (h42 : (I 100 5) < (nI (s + 1))) => ?_) (fun (h42 : ¬ (I 100 5) < (nI (s + 1))) => ?_)
        · exact absurd h42 (by rw [ek]; exact nI_nlt (by omega) (by omega))
        · refine r_run okX12_entries 3 (cs := []) (σ' := (49, [some (.ref 100), some (.int y), some (.int w), some (.int (nI n)), some (.int (nI m)), some (.int l), some (.int (nI (s + 1))), none], [.int y, .int (nI (s + 1)), .ref 100], (SS b c), I, J, 0, 0)) rfl trivial ?_
          refine r_callV okX12_entries okX12_isTrueIn [.int (nI (s + 1)), .int y] [] 100 rfl rfl rfl kkX12_isTrueIn rfl rfl (by decide) rfl rfl rfl (by decide) ⟨Nat.le_refl _, Nat.le_refl _⟩ (Nat.le_of_ble_eq_true rfl) (c_isTrueIn0 γ hTr (s + 1) (by omega) y) (fun v1 S1 I1 J1 hp => ?_)
          obtain ⟨rfl, rfl, rfl, rfl⟩ := hp
          show Rj _ _ _ _ _ _ (52, [some (.ref 100), some (.int y), some (.int w), some (.int (nI n)), some (.int (nI m)), some (.int l), some (.int (nI (s + 1))), none], [.int (bi (trI I (s + 1) y))], (SS b c), I, J, 0, 0)
          refine r_ifc okX12_entries rfl (fun (h52 : (bi (trI I (s + 1) y)) = (0 : Int32)) => ?_) (fun (h52 : ¬ (bi (trI I (s + 1) y)) = (0 : Int32)) => ?_)
          · have h52s := bi_0.mp h52
            refine r_run okX12_entries 2 (cs := []) (σ' := (36, [some (.ref 100), some (.int y), some (.int w), some (.int (nI n)), some (.int (nI m)), some (.int l), some (.int (nI (s + 1) + 1)), none], [], (SS b c), I, J, 0, 0)) rfl trivial ?_
            simp only [← nI_succ]
            refine r_weak (L' := [some (.ref 100), some (.int y), some (.int w), some (.int (nI n)), some (.int (nI m)), some (.int l), some (.int (nI ((s + 1) + 1))), none]) ⟨rfl, rfl, rfl, rfl, rfl, rfl, rfl, trivial⟩ ?_
            have e : enS I y (j + 1) (s + 1) n m l = enS I y j ((s + 1) + 1) n m l := by rw [enS]; simp [enI, *]
            rw [e]
            exact ih ((s + 1) + 1) n m _ (by omega)
          · have h52s := bi_n0.mp h52
            refine r_run okX12_entries 5 (cs := []) (σ' := (61, [some (.ref 100), some (.int y), some (.int w), some (.int (nI n)), some (.int (nI m)), some (.int l), some (.int (nI (s + 1))), none], [.int y, .int ((nI (s + 1)) - 1), .ref 100], (SS b c), I, J, 0, 0)) rfl trivial ?_
            refine r_callV okX12_entries okX12_isTrueIn [.int ((nI (s + 1)) - 1), .int y] [] 100 rfl rfl rfl kkX12_isTrueIn rfl rfl (by decide) rfl rfl rfl (by decide) ⟨Nat.le_refl _, Nat.le_refl _⟩ (Nat.le_of_ble_eq_true rfl) (c_isTrueIn1 γ hTr s (by omega) y (nI_pred s)) (fun v1 S1 I1 J1 hp => ?_)
            obtain ⟨rfl, rfl, rfl, rfl⟩ := hp
            show Rj _ _ _ _ _ _ (64, [some (.ref 100), some (.int y), some (.int w), some (.int (nI n)), some (.int (nI m)), some (.int l), some (.int (nI (s + 1))), none], [.int (bi (trI I s y))], (SS b c), I, J, 0, 0)
            refine r_ifc okX12_entries rfl (fun (h64 : (bi (trI I s y)) = (0 : Int32)) => ?_) (fun (h64 : ¬ (bi (trI I s y)) = (0 : Int32)) => ?_)
            · have h64s := bi_0.mp h64
              refine r_run okX12_entries 7 (cs := []) (σ' := (78, [some (.ref 100), some (.int y), some (.int w), some (.int ((nI n) + 1)), some (.int (nI m)), some (.int l), some (.int (nI (s + 1))), none], [.int (nI (s + 1)), .int y, .ref 100], (SS b c), I, J, 0, 0)) rfl trivial ?_
              refine r_callV okX12_entries okX12_thereAt [.int y, .int (nI (s + 1))] [] 100 rfl rfl rfl kkX12_thereAt rfl rfl (by decide) rfl rfl rfl (by decide) ⟨Nat.le_refl _, Nat.le_refl _⟩ (Nat.le_of_ble_eq_true rfl) (c_thereAt1 γ hI.1 (by rw [he]; try rfl)) (fun v1 S1 I1 J1 hp => ?_)
              obtain ⟨rfl, rfl, rfl, rfl⟩ := hp
              show Rj _ _ _ _ _ _ (81, [some (.ref 100), some (.int y), some (.int w), some (.int ((nI n) + 1)), some (.int (nI m)), some (.int l), some (.int (nI (s + 1))), none], [.int (-1)], (SS b c), I, J, 0, 0)
              refine r_run okX12_entries 3 (cs := []) (σ' := (86, [some (.ref 100), some (.int y), some (.int w), some (.int ((nI n) + 1)), some (.int (nI m)), some (.int l), some (.int (nI (s + 1))), some (.int (-1))], [.int (-1), .int (-1)], (SS b c), I, J, 0, 0)) rfl trivial ?_
              refine r_icmp okX12_entries rfl (fun (h86 : ¬ ((-1) : Int32) = ((-1) : Int32)) => ?_) (fun h860 => ?_)
              · exact absurd h86 (by decide)
              · have h86 : ((-1) : Int32) = ((-1) : Int32) := Classical.not_not.mp h860
                refine r_run okX12_entries 7 (cs := []) (σ' := (36, [some (.ref 100), some (.int y), some (.int w), some (.int ((nI n) + 1)), some (.int ((nI m) + 1)), some (.int l), some (.int (nI (s + 1) + 1)), some (.int (-1))], [], (SS b c), I, J, 0, 0)) rfl trivial ?_
                simp only [← nI_succ]
                refine r_weak (L' := [some (.ref 100), some (.int y), some (.int w), some (.int (nI (n + 1))), some (.int (nI (m + 1))), some (.int l), some (.int (nI ((s + 1) + 1))), none]) ⟨rfl, rfl, rfl, rfl, rfl, rfl, rfl, trivial⟩ ?_
                have e : enS I y (j + 1) (s + 1) n m l = enS I y j ((s + 1) + 1) (n + 1) (m + 1) l := by rw [enS]; simp [enI, *]
                rw [e]
                exact ih ((s + 1) + 1) (n + 1) (m + 1) _ (by omega)
            · have h64s := bi_n0.mp h64
              refine r_run okX12_entries 3 (cs := []) (σ' := (36, [some (.ref 100), some (.int y), some (.int w), some (.int (nI n)), some (.int (nI m)), some (.int l), some (.int (nI (s + 1) + 1)), none], [], (SS b c), I, J, 0, 0)) rfl trivial ?_
              simp only [← nI_succ]
              refine r_weak (L' := [some (.ref 100), some (.int y), some (.int w), some (.int (nI n)), some (.int (nI m)), some (.int l), some (.int (nI ((s + 1) + 1))), none]) ⟨rfl, rfl, rfl, rfl, rfl, rfl, rfl, trivial⟩ ?_
              have e : enS I y (j + 1) (s + 1) n m l = enS I y j ((s + 1) + 1) n m l := by rw [enS]; simp [enI, *]
              rw [e]
              exact ih ((s + 1) + 1) n m _ (by omega)
    | some w1 =>
      have hw1 := thr_lt hI.1 he
      have cw : (nI w1).toNatClampNeg = w1 := nI_clamp (by omega)
      cases t with
      | zero =>
        refine r_run okX12_entries 3 (cs := []) (σ' := (42, [some (.ref 100), some (.int y), some (.int w), some (.int (nI n)), some (.int (nI m)), some (.int l), some (.int (nI 0)), none], [.int (I 100 5), .int (nI 0)], (SS b c), I, J, 0, 0)) rfl trivial ?_
        refine r_icmp okX12_entries rfl (fun (h42 : (I 100 5) < (nI 0)) => ?_) (fun (h42 : ¬ (I 100 5) < (nI 0)) => ?_)
        · exact absurd h42 (by rw [ek]; exact nI_nlt (by omega) (by omega))
        · refine r_run okX12_entries 3 (cs := []) (σ' := (49, [some (.ref 100), some (.int y), some (.int w), some (.int (nI n)), some (.int (nI m)), some (.int l), some (.int (nI 0)), none], [.int y, .int (nI 0), .ref 100], (SS b c), I, J, 0, 0)) rfl trivial ?_
          refine r_callV okX12_entries okX12_isTrueIn [.int (nI 0), .int y] [] 100 rfl rfl rfl kkX12_isTrueIn rfl rfl (by decide) rfl rfl rfl (by decide) ⟨Nat.le_refl _, Nat.le_refl _⟩ (Nat.le_of_ble_eq_true rfl) (c_isTrueIn0 γ hTr 0 (by omega) y) (fun v1 S1 I1 J1 hp => ?_)
          obtain ⟨rfl, rfl, rfl, rfl⟩ := hp
          show Rj _ _ _ _ _ _ (52, [some (.ref 100), some (.int y), some (.int w), some (.int (nI n)), some (.int (nI m)), some (.int l), some (.int (nI 0)), none], [.int (bi (trI I 0 y))], (SS b c), I, J, 0, 0)
          refine r_ifc okX12_entries rfl (fun (h52 : (bi (trI I 0 y)) = (0 : Int32)) => ?_) (fun (h52 : ¬ (bi (trI I 0 y)) = (0 : Int32)) => ?_)
          · have h52s := bi_0.mp h52
            refine r_run okX12_entries 2 (cs := []) (σ' := (36, [some (.ref 100), some (.int y), some (.int w), some (.int (nI n)), some (.int (nI m)), some (.int l), some (.int (nI 0 + 1)), none], [], (SS b c), I, J, 0, 0)) rfl trivial ?_
            simp only [← nI_succ]
            refine r_weak (L' := [some (.ref 100), some (.int y), some (.int w), some (.int (nI n)), some (.int (nI m)), some (.int l), some (.int (nI (0 + 1))), none]) ⟨rfl, rfl, rfl, rfl, rfl, rfl, rfl, trivial⟩ ?_
            have e : enS I y (j + 1) 0 n m l = enS I y j (0 + 1) n m l := by rw [enS]; simp [enI, *]
            rw [e]
            exact ih (0 + 1) n m _ (by omega)
          · have h52s := bi_n0.mp h52
            refine r_run okX12_entries 5 (cs := []) (σ' := (61, [some (.ref 100), some (.int y), some (.int w), some (.int (nI n)), some (.int (nI m)), some (.int l), some (.int (nI 0)), none], [.int y, .int ((nI 0) - 1), .ref 100], (SS b c), I, J, 0, 0)) rfl trivial ?_
            refine r_callV okX12_entries okX12_isTrueIn [.int ((nI 0) - 1), .int y] [] 100 rfl rfl rfl kkX12_isTrueIn rfl rfl (by decide) rfl rfl rfl (by decide) ⟨Nat.le_refl _, Nat.le_refl _⟩ (Nat.le_of_ble_eq_true rfl) (c_isTrueInM γ _ y (by rw [nI_0]; decide)) (fun v1 S1 I1 J1 hp => ?_)
            obtain ⟨rfl, rfl, rfl, rfl⟩ := hp
            show Rj _ _ _ _ _ _ (64, [some (.ref 100), some (.int y), some (.int w), some (.int (nI n)), some (.int (nI m)), some (.int l), some (.int (nI 0)), none], [.int 0], (SS b c), I, J, 0, 0)
            refine r_ifc okX12_entries rfl (fun (h64 : (0 : Int32) = (0 : Int32)) => ?_) (fun (h64 : ¬ (0 : Int32) = (0 : Int32)) => ?_)
            · refine r_run okX12_entries 7 (cs := []) (σ' := (78, [some (.ref 100), some (.int y), some (.int w), some (.int ((nI n) + 1)), some (.int (nI m)), some (.int l), some (.int (nI 0)), none], [.int (nI 0), .int y, .ref 100], (SS b c), I, J, 0, 0)) rfl trivial ?_
              refine r_callV okX12_entries okX12_thereAt [.int y, .int (nI 0)] [] 100 rfl rfl rfl kkX12_thereAt rfl rfl (by decide) rfl rfl rfl (by decide) ⟨Nat.le_refl _, Nat.le_refl _⟩ (Nat.le_of_ble_eq_true rfl) (c_thereAt1 γ hI.1 (by rw [he]; try rfl)) (fun v1 S1 I1 J1 hp => ?_)
              obtain ⟨rfl, rfl, rfl, rfl⟩ := hp
              show Rj _ _ _ _ _ _ (81, [some (.ref 100), some (.int y), some (.int w), some (.int ((nI n) + 1)), some (.int (nI m)), some (.int l), some (.int (nI 0)), none], [.int (nI w1)], (SS b c), I, J, 0, 0)
              refine r_run okX12_entries 3 (cs := []) (σ' := (86, [some (.ref 100), some (.int y), some (.int w), some (.int ((nI n) + 1)), some (.int (nI m)), some (.int l), some (.int (nI 0)), some (.int (nI w1))], [.int (-1), .int (nI w1)], (SS b c), I, J, 0, 0)) rfl trivial ?_
              refine r_icmp okX12_entries rfl (fun (h86 : ¬ (nI w1) = ((-1) : Int32)) => ?_) (fun h860 => ?_)
              · refine r_run okX12_entries 11 (cs := [vp_in (nI w1) 200]) (σ' := (36, [some (.ref 100), some (.int y), some (.int w), some (.int ((nI n) + 1)), some (.int (nI m)), some (.int ((l + (nI 0)) - (I 128 ((nI w1).toNatClampNeg)))), some (.int (nI 0 + 1)), some (.int (nI w1))], [], (SS b c), I, J, 0, 0)) rfl ⟨(vin hw1.2 (by decide)), trivial⟩ ?_
                simp only [cw]
                show Rj _ _ _ _ _ _ (36, [some (.ref 100), some (.int y), some (.int w), some (.int ((nI n) + 1)), some (.int (nI m)), some (.int ((l + (nI 0)) - (I 128 w1))), some (.int (nI 0 + 1)), some (.int (nI w1))], [], (SS b c), I, J, 0, 0)
                simp only [← nI_succ]
                refine r_weak (L' := [some (.ref 100), some (.int y), some (.int w), some (.int (nI (n + 1))), some (.int (nI m)), some (.int ((l + (nI 0)) - (I 128 w1))), some (.int (nI (0 + 1))), none]) ⟨rfl, rfl, rfl, rfl, rfl, rfl, rfl, trivial⟩ ?_
                have e : enS I y (j + 1) 0 n m l = enS I y j (0 + 1) (n + 1) m ((l + (nI 0)) - (I 128 w1)) := by rw [enS]; simp [enI, *]
                rw [e]
                exact ih (0 + 1) (n + 1) m _ (by omega)
              · have h86 : (nI w1) = ((-1) : Int32) := Classical.not_not.mp h860
                exact absurd h86 (nI_m1 (by omega))
            · exact absurd h64 (by decide)
      | succ s =>
        refine r_run okX12_entries 3 (cs := []) (σ' := (42, [some (.ref 100), some (.int y), some (.int w), some (.int (nI n)), some (.int (nI m)), some (.int l), some (.int (nI (s + 1))), none], [.int (I 100 5), .int (nI (s + 1))], (SS b c), I, J, 0, 0)) rfl trivial ?_
        refine r_icmp okX12_entries rfl (fun (h42 : (I 100 5) < (nI (s + 1))) => ?_) (fun (h42 : ¬ (I 100 5) < (nI (s + 1))) => ?_)
        · exact absurd h42 (by rw [ek]; exact nI_nlt (by omega) (by omega))
        · refine r_run okX12_entries 3 (cs := []) (σ' := (49, [some (.ref 100), some (.int y), some (.int w), some (.int (nI n)), some (.int (nI m)), some (.int l), some (.int (nI (s + 1))), none], [.int y, .int (nI (s + 1)), .ref 100], (SS b c), I, J, 0, 0)) rfl trivial ?_
          refine r_callV okX12_entries okX12_isTrueIn [.int (nI (s + 1)), .int y] [] 100 rfl rfl rfl kkX12_isTrueIn rfl rfl (by decide) rfl rfl rfl (by decide) ⟨Nat.le_refl _, Nat.le_refl _⟩ (Nat.le_of_ble_eq_true rfl) (c_isTrueIn0 γ hTr (s + 1) (by omega) y) (fun v1 S1 I1 J1 hp => ?_)
          obtain ⟨rfl, rfl, rfl, rfl⟩ := hp
          show Rj _ _ _ _ _ _ (52, [some (.ref 100), some (.int y), some (.int w), some (.int (nI n)), some (.int (nI m)), some (.int l), some (.int (nI (s + 1))), none], [.int (bi (trI I (s + 1) y))], (SS b c), I, J, 0, 0)
          refine r_ifc okX12_entries rfl (fun (h52 : (bi (trI I (s + 1) y)) = (0 : Int32)) => ?_) (fun (h52 : ¬ (bi (trI I (s + 1) y)) = (0 : Int32)) => ?_)
          · have h52s := bi_0.mp h52
            refine r_run okX12_entries 2 (cs := []) (σ' := (36, [some (.ref 100), some (.int y), some (.int w), some (.int (nI n)), some (.int (nI m)), some (.int l), some (.int (nI (s + 1) + 1)), none], [], (SS b c), I, J, 0, 0)) rfl trivial ?_
            simp only [← nI_succ]
            refine r_weak (L' := [some (.ref 100), some (.int y), some (.int w), some (.int (nI n)), some (.int (nI m)), some (.int l), some (.int (nI ((s + 1) + 1))), none]) ⟨rfl, rfl, rfl, rfl, rfl, rfl, rfl, trivial⟩ ?_
            have e : enS I y (j + 1) (s + 1) n m l = enS I y j ((s + 1) + 1) n m l := by rw [enS]; simp [enI, *]
            rw [e]
            exact ih ((s + 1) + 1) n m _ (by omega)
          · have h52s := bi_n0.mp h52
            refine r_run okX12_entries 5 (cs := []) (σ' := (61, [some (.ref 100), some (.int y), some (.int w), some (.int (nI n)), some (.int (nI m)), some (.int l), some (.int (nI (s + 1))), none], [.int y, .int ((nI (s + 1)) - 1), .ref 100], (SS b c), I, J, 0, 0)) rfl trivial ?_
            refine r_callV okX12_entries okX12_isTrueIn [.int ((nI (s + 1)) - 1), .int y] [] 100 rfl rfl rfl kkX12_isTrueIn rfl rfl (by decide) rfl rfl rfl (by decide) ⟨Nat.le_refl _, Nat.le_refl _⟩ (Nat.le_of_ble_eq_true rfl) (c_isTrueIn1 γ hTr s (by omega) y (nI_pred s)) (fun v1 S1 I1 J1 hp => ?_)
            obtain ⟨rfl, rfl, rfl, rfl⟩ := hp
            show Rj _ _ _ _ _ _ (64, [some (.ref 100), some (.int y), some (.int w), some (.int (nI n)), some (.int (nI m)), some (.int l), some (.int (nI (s + 1))), none], [.int (bi (trI I s y))], (SS b c), I, J, 0, 0)
            refine r_ifc okX12_entries rfl (fun (h64 : (bi (trI I s y)) = (0 : Int32)) => ?_) (fun (h64 : ¬ (bi (trI I s y)) = (0 : Int32)) => ?_)
            · have h64s := bi_0.mp h64
              refine r_run okX12_entries 7 (cs := []) (σ' := (78, [some (.ref 100), some (.int y), some (.int w), some (.int ((nI n) + 1)), some (.int (nI m)), some (.int l), some (.int (nI (s + 1))), none], [.int (nI (s + 1)), .int y, .ref 100], (SS b c), I, J, 0, 0)) rfl trivial ?_
              refine r_callV okX12_entries okX12_thereAt [.int y, .int (nI (s + 1))] [] 100 rfl rfl rfl kkX12_thereAt rfl rfl (by decide) rfl rfl rfl (by decide) ⟨Nat.le_refl _, Nat.le_refl _⟩ (Nat.le_of_ble_eq_true rfl) (c_thereAt1 γ hI.1 (by rw [he]; try rfl)) (fun v1 S1 I1 J1 hp => ?_)
              obtain ⟨rfl, rfl, rfl, rfl⟩ := hp
              show Rj _ _ _ _ _ _ (81, [some (.ref 100), some (.int y), some (.int w), some (.int ((nI n) + 1)), some (.int (nI m)), some (.int l), some (.int (nI (s + 1))), none], [.int (nI w1)], (SS b c), I, J, 0, 0)
              refine r_run okX12_entries 3 (cs := []) (σ' := (86, [some (.ref 100), some (.int y), some (.int w), some (.int ((nI n) + 1)), some (.int (nI m)), some (.int l), some (.int (nI (s + 1))), some (.int (nI w1))], [.int (-1), .int (nI w1)], (SS b c), I, J, 0, 0)) rfl trivial ?_
              refine r_icmp okX12_entries rfl (fun (h86 : ¬ (nI w1) = ((-1) : Int32)) => ?_) (fun h860 => ?_)
              · refine r_run okX12_entries 11 (cs := [vp_in (nI w1) 200]) (σ' := (36, [some (.ref 100), some (.int y), some (.int w), some (.int ((nI n) + 1)), some (.int (nI m)), some (.int ((l + (nI (s + 1))) - (I 128 ((nI w1).toNatClampNeg)))), some (.int (nI (s + 1) + 1)), some (.int (nI w1))], [], (SS b c), I, J, 0, 0)) rfl ⟨(vin hw1.2 (by decide)), trivial⟩ ?_
                simp only [cw]
                show Rj _ _ _ _ _ _ (36, [some (.ref 100), some (.int y), some (.int w), some (.int ((nI n) + 1)), some (.int (nI m)), some (.int ((l + (nI (s + 1))) - (I 128 w1))), some (.int (nI (s + 1) + 1)), some (.int (nI w1))], [], (SS b c), I, J, 0, 0)
                simp only [← nI_succ]
                refine r_weak (L' := [some (.ref 100), some (.int y), some (.int w), some (.int (nI (n + 1))), some (.int (nI m)), some (.int ((l + (nI (s + 1))) - (I 128 w1))), some (.int (nI ((s + 1) + 1))), none]) ⟨rfl, rfl, rfl, rfl, rfl, rfl, rfl, trivial⟩ ?_
                have e : enS I y (j + 1) (s + 1) n m l = enS I y j ((s + 1) + 1) (n + 1) m ((l + (nI (s + 1))) - (I 128 w1)) := by rw [enS]; simp [enI, *]
                rw [e]
                exact ih ((s + 1) + 1) (n + 1) m _ (by omega)
              · have h86 : (nI w1) = ((-1) : Int32) := Classical.not_not.mp h860
                exact absurd h86 (nI_m1 (by omega))
            · have h64s := bi_n0.mp h64
              refine r_run okX12_entries 3 (cs := []) (σ' := (36, [some (.ref 100), some (.int y), some (.int w), some (.int (nI n)), some (.int (nI m)), some (.int l), some (.int (nI (s + 1) + 1)), none], [], (SS b c), I, J, 0, 0)) rfl trivial ?_
              simp only [← nI_succ]
              refine r_weak (L' := [some (.ref 100), some (.int y), some (.int w), some (.int (nI n)), some (.int (nI m)), some (.int l), some (.int (nI ((s + 1) + 1))), none]) ⟨rfl, rfl, rfl, rfl, rfl, rfl, rfl, trivial⟩ ?_
              have e : enS I y (j + 1) (s + 1) n m l = enS I y j ((s + 1) + 1) n m l := by rw [enS]; simp [enI, *]
              rw [e]
              exact ih ((s + 1) + 1) n m _ (by omega)
theorem c_Mentries (γ : GE) {b c : Bool} {I : AI} {J : AJ} (hT : I 100 0 = 0) (hI : MWar I) (hL : MLand I) (hTr : MTru I) (y w : Int32) : Ct γ mX12_entries 2 0 0 [.ref 100, .int y, .int w] (SS b c) I J (rI (entV I y w) (SS b c) I J) := by
  have ht := told0 hT
  refine ct_of okX12_entries (L := [some (.ref 100), some (.int y), some (.int w), none, none, none, none, none]) (Nat.le_of_ble_eq_true rfl) rfl ?_
  refine r_run okX12_entries 5 (cs := []) (σ' := (7, [some (.ref 100), some (.int y), some (.int w), none, none, none, none, none], [.int y, .ref 100], (SS b c), (upI I 100 0 0), J, 0, 0)) rfl trivial ?_
  simp only [ht]
  show Rj _ _ _ _ _ _ (7, [some (.ref 100), some (.int y), some (.int w), none, none, none, none, none], [.int y, .ref 100], (SS b c), I, J, 0, 0)
  refine r_callV okX12_entries okX12_isCounty [.int y] [] 100 rfl rfl rfl kkX12_isCounty rfl rfl (by decide) rfl rfl rfl (by decide) ⟨Nat.le_refl _, Nat.le_refl _⟩ (Nat.le_of_ble_eq_true rfl) (c_isCounty γ y) (fun v1 S1 I1 J1 hp => ?_)
  obtain ⟨rfl, rfl, rfl, rfl⟩ := hp
  show Rj _ _ _ _ _ _ (10, [some (.ref 100), some (.int y), some (.int w), none, none, none, none, none], [.int (bi (ctyB y))], (SS b c), I, J, 0, 0)
  refine r_ifc okX12_entries rfl (fun (h10 : (bi (ctyB y)) = (0 : Int32)) => ?_) (fun (h10 : ¬ (bi (ctyB y)) = (0 : Int32)) => ?_)
  · have h10s := bi_0.mp h10
    refine r_run okX12_entries 1 (cs := []) (σ' := (24, [some (.ref 100), some (.int y), some (.int w), none, none, none, none, none], [.int (-1)], (SS b c), I, J, 0, 0)) rfl trivial ?_
    refine r_iret okX12_entries rfl rfl rfl (Nat.le_refl _) (Nat.le_refl _) ?_
    exact ⟨by simp [entV, *], rfl, rfl, rfl⟩
  · have h10s := bi_n0.mp h10
    refine r_run okX12_entries 4 (cs := []) (σ' := (17, [some (.ref 100), some (.int y), some (.int w), none, none, none, none, none], [.int 2, .int 0, .int w, .ref 100], (SS b c), I, J, 0, 0)) rfl trivial ?_
    refine r_callV okX12_entries okX12_isIn [.int w, .int 0, .int 2] [] 100 rfl rfl rfl kkX12_isIn rfl rfl (by decide) rfl rfl rfl (by decide) ⟨Nat.le_refl _, Nat.le_refl _⟩ (Nat.le_of_ble_eq_true rfl) (c_isIn γ w 0 2) (fun v1 S1 I1 J1 hp => ?_)
    obtain ⟨rfl, rfl, rfl, rfl⟩ := hp
    show Rj _ _ _ _ _ _ (20, [some (.ref 100), some (.int y), some (.int w), none, none, none, none, none], [.int (bi (inB w 0 2))], (SS b c), I, J, 0, 0)
    refine r_ifc okX12_entries rfl (fun (h20 : ¬ (bi (inB w 0 2)) = (0 : Int32)) => ?_) (fun h200 => ?_)
    · have h20s := bi_n0.mp h20
      refine r_run okX12_entries 8 (cs := []) (σ' := (36, [some (.ref 100), some (.int y), some (.int w), some (.int 0), some (.int 0), some (.int 0), some (.int 0), none], [], (SS b c), I, J, 0, 0)) rfl trivial ?_
      obtain ⟨k, hk, ek⟩ := hI.2.1
      have h := lp_entries γ (b := b) (c := c) (I := I) (J := J) hI hTr y w k hk ek (k + 1) 0 0 0 0 (by omega)
      rw [nI_0] at h
      rw [entV, h10s, h20s, Bool.and_self, if_pos rfl, ek, nv_nI (by omega)]
      exact h
    · have h20 : (bi (inB w 0 2)) = (0 : Int32) := Classical.not_not.mp h200
      have h20s := bi_0.mp h20
      refine r_run okX12_entries 1 (cs := []) (σ' := (24, [some (.ref 100), some (.int y), some (.int w), none, none, none, none, none], [.int (-1)], (SS b c), I, J, 0, 0)) rfl trivial ?_
      refine r_iret okX12_entries rfl rfl rfl (Nat.le_refl _) (Nat.le_refl _) ?_
      exact ⟨by simp [entV, *], rfl, rfl, rfl⟩
