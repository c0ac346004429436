/-! ===== what stays where cells are unchanged; Heart: reach ===== -/
theorem seesB_k {I I' : AI} (h : ∀ a, 105 ≤ a → a ≤ 115 → I' a = I a) (r x : Nat) : seesB I' r x = seesB I r x := by
  unfold seesB; rw [h 105 (by omega) (by omega), h 106 (by omega) (by omega), h 107 (by omega) (by omega), h 109 (by omega) (by omega)]
theorem allB_k {I I' : AI} (h : ∀ a, 105 ≤ a → a ≤ 115 → I' a = I a) (i x : Nat) : allB I' i x = allB I i x := by
  unfold allB; rw [h 110 (by omega) (by omega), h 113 (by omega) (by omega), h 108 (by omega) (by omega), h 111 (by omega) (by omega), h 114 (by omega) (by omega), seesB_k h]
theorem alN_k {I I' : AI} (h : ∀ a, 105 ≤ a → a ≤ 115 → I' a = I a) (kn t m x : Nat) : alN I' kn t m x = alN I kn t m x := by
  unfold alN; rw [h 112 (by omega) (by omega)]; congr 1; funext i; rw [allB_k h]
theorem lsT_k {I I' : AI} (h : I' 112 = I 112) (t : Int32) : ∀ n, lsT I' t n = lsT I t n
  | 0 => rfl
  | n + 1 => by unfold lsT; rw [h, lsT_k h t n]
theorem OTel_k {I I' : AI} (hA : ∀ a, 29 ≤ a → a ≤ 36 → I' a = I a) (hB : ∀ a, 105 ≤ a → a ≤ 115 → I' a = I a) (h13 : I' 100 13 = I 100 13) (h5 : I' 100 5 = I 100 5) (hO : OTel I) : OTel I' := by
  obtain ⟨h1, h2, h3, h4⟩ := hO
  have e112 := hB 112 (by omega) (by omega)
  refine ⟨by rw [hA 29 (by omega) (by omega), h13]; exact h1, fun i hi => ?_, fun t ht => ?_, fun i hi => ?_⟩
  · rw [h13] at hi
    have := h2 i hi
    unfold mes
    rw [hA 30 (by omega) (by omega), hA 31 (by omega) (by omega), hA 32 (by omega) (by omega), hA 33 (by omega) (by omega), hA 34 (by omega) (by omega), hA 35 (by omega) (by omega), hB 110 (by omega) (by omega), e112, hB 113 (by omega) (by omega), hB 111 (by omega) (by omega), hB 114 (by omega) (by omega), hB 115 (by omega) (by omega), lsT_k e112]
    exact this
  · rw [hA 36 (by omega) (by omega), h13, lsT_k e112]; exact h3 t ht
  · rw [h13] at hi
    rw [hB 115 (by omega) (by omega), h5]; exact h4 i hi
theorem MTel_k {I I' : AI} (hB : ∀ a, 105 ≤ a → a ≤ 115 → I' a = I a) (h13 : I' 100 13 = I 100 13) (hO : MTel I) : MTel I' := by
  refine ⟨by rw [h13]; exact hO.1, fun i hi => ?_⟩
  rw [h13] at hi
  rw [hB 110 (by omega) (by omega), hB 111 (by omega) (by omega), hB 112 (by omega) (by omega), hB 113 (by omega) (by omega), hB 114 (by omega) (by omega), hB 115 (by omega) (by omega)]
  exact hO.2 i hi
theorem MRad_k {I I' : AI} (hB : ∀ a, 105 ≤ a → a ≤ 115 → I' a = I a) (hO : MRad I) : MRad I' := by
  unfold MRad
  rw [hB 105 (by omega) (by omega), hB 106 (by omega) (by omega), hB 107 (by omega) (by omega), hB 108 (by omega) (by omega), hB 109 (by omega) (by omega)]
  exact hO
theorem ORad_k {I I' : AI} {J J' : AJ} (hA : ∀ r, r < 3 → I' (17 + 4 * r) = I (17 + 4 * r)) (hB : ∀ a, 105 ≤ a → a ≤ 115 → I' a = I a) (hJ : ∀ a, 18 ≤ a → a ≤ 28 → J' a = J a) (hO : ORad I J) : ORad I' J' := by
  intro r hr
  obtain ⟨h1, h2, h3, h4, h5⟩ := hO r hr
  rw [hA r hr, hB 105 (by omega) (by omega), hB 106 (by omega) (by omega), hB 107 (by omega) (by omega), hB 108 (by omega) (by omega), hB 109 (by omega) (by omega)]
  exact ⟨h1, h2, cs_f (fun x _ => (seesB_k hB r x).symm) (cs_k (hJ _ (by omega) (by omega)) h3), cs_k (hJ _ (by omega) (by omega)) h4, fun q => cs_k (hJ _ (by omega) (by omega)) (h5 q)⟩
/-- MAYBE at t by the first kn tellings -/
def mayK (I : AI) (kn : Nat) : Nat → Nat → Bool
  | 0, x => decide ((0 : Int32) = I 100 7) && alN I kn 0 (nv (I 100 13)) x
  | t + 1, x => if nI (t + 1) < I 100 7 then false else (if nI (t + 1) = I 100 7 then true else fromN (I 100 6) (mayK I kn t) 96 x) && alN I kn (t + 1) (nv (I 100 13)) x
def Rw (I : AI) (J : AJ) (kn km : Nat) : Prop := ∀ s, s < km → w48 (J 38 s) ∧ w48 (J 39 s) ∧ ∀ x, x < 96 → hs (J 38 s) (J 39 s) x = mayK I kn s x
def OHea (I : AI) (J : AJ) : Prop := I 37 6 = I 100 6 ∧ I 37 7 = I 100 7 ∧ ∃ kk km, kk ≤ nv (I 100 13) ∧ km ≤ 720 ∧ I 37 8 = nI kk ∧ I 37 9 = nI km ∧ Rw I J kk km
def ReP (I : AI) (J : AJ) (t kn : Nat) (I' : AI) (J' : AJ) : Prop := kI [37] I I' ∧ I' 37 6 = I 37 6 ∧ I' 37 7 = I 37 7 ∧ I' 37 8 = nI kn ∧ (∃ km, km ≤ 720 ∧ t < km ∧ I' 37 9 = nI km ∧ Rw I J' kn km) ∧ kJ [38, 39, 40, 41] J J'
/-- all that MAYBE rests on -/
def HBs (I : AI) (J : AJ) : Prop := OTel I ∧ MTel I ∧ MRad I ∧ ORad I J ∧ rg 512 (I 100 6) ∧ rg 720 (I 100 7)
theorem HBs_37 {I I' : AI} {J J' : AJ} (h : kI [37] I I') (hJ : kJ [38, 39, 40, 41] J J') (hB : HBs I J) : HBs I' J' := by
  have g : ∀ a, ¬ a = 37 → I' a = I a := fun a q => h a (fun z => q (List.mem_singleton.mp z))
  obtain ⟨h1, h2, h3, h4, h5, h6⟩ := hB
  have hb : ∀ a, 105 ≤ a → a ≤ 115 → I' a = I a := fun a q1 q2 => g a (by omega)
  have e := g 100 (by omega)
  exact ⟨OTel_k (fun a q1 q2 => g a (by omega)) hb (by rw [e]) (by rw [e]) h1, MTel_k hb (by rw [e]) h2, MRad_k hb h3, ORad_k (fun r hr => g _ (by omega)) hb (fun a q1 q2 => hJ a (by simp; omega)) h4, by rw [e]; exact h5, by rw [e]; exact h6⟩
theorem mayK_st {I : AI} {kn q x : Nat} {f : Nat → Bool} {g : Bool} (h : mayK I kn q x = (g && alN I kn q (nv (I 100 13)) x)) (hf : f x = g) : (f x && alN I kn q (nv (I 100 13)) x) = mayK I kn q x := by rw [h, hf]
theorem o_forget (γ : GE) {b c : Bool} {I : AI} {J : AJ} : Ct γ mX1_forget 0 0 0 [.ref 37] (SS b c) I J (rV (SS b c) (upI I 37 9 0) J) := by
  refine ct_of okX1_forget (L := [some (.ref 37)]) (Nat.le_of_ble_eq_true rfl) rfl ?_
  refine r_run okX1_forget 3 (cs := []) (σ' := (5, [some (.ref 37)], [], (SS b c), (upI I 37 9 0), J, 0, 0)) rfl trivial ?_
  refine r_vret okX1_forget rfl rfl (Nat.le_refl _) (Nat.le_refl _) ?_
  exact ⟨rfl, rfl, rfl, rfl⟩
theorem o_moves (γ : GE) {b c : Bool} {I : AI} {J : AJ} : Ct γ mX1_moves 0 0 0 [.ref 37] (SS b c) I J (rI (I 37 6) (SS b c) I J) := by
  refine ct_of okX1_moves (L := [some (.ref 37)]) (Nat.le_of_ble_eq_true rfl) rfl ?_
  refine r_run okX1_moves 2 (cs := []) (σ' := (4, [some (.ref 37)], [.int (I 37 6)], (SS b c), I, J, 0, 0)) rfl trivial ?_
  refine r_iret okX1_moves rfl rfl rfl (Nat.le_refl _) (Nat.le_refl _) ?_
  exact ⟨rfl, rfl, rfl, rfl⟩
theorem o_begin (γ : GE) {b c : Bool} {I : AI} {J : AJ} (m s : Int32) : Ct γ mX1_begin 1 0 0 [.ref 37, .int m, .int s] (SS b c) I J (rV (SS b c) (upI (upI (upI I 37 6 m) 37 7 s) 37 9 0) J) := by
  refine ct_of okX1_begin (L := [some (.ref 37), some (.int m), some (.int s)]) (Nat.le_of_ble_eq_true rfl) rfl ?_
  refine r_run okX1_begin 7 (cs := []) (σ' := (11, [some (.ref 37), some (.int m), some (.int s)], [.ref 37], (SS b c), (upI (upI I 37 6 m) 37 7 s), J, 0, 0)) rfl trivial ?_
  refine r_callV okX1_begin okX1_forget [] [] 37 rfl rfl rfl kkX1_forget rfl rfl (by decide) rfl rfl rfl (by decide) ⟨Nat.le_refl _, Nat.le_refl _⟩ (Nat.le_of_ble_eq_true rfl) (o_forget γ) (fun v1 S1 I1 J1 hp => ?_)
  obtain ⟨rfl, rfl, rfl, rfl⟩ := hp
  show Rj _ _ _ _ _ _ (14, [some (.ref 37), some (.int m), some (.int s)], [], (SS b c), (upI (upI (upI I 37 6 m) 37 7 s) 37 9 0), J, 0, 0)
  refine r_vret okX1_begin rfl rfl (Nat.le_refl _) (Nat.le_refl _) ?_
  exact ⟨rfl, rfl, rfl, rfl⟩
set_option maxHeartbeats 2000000 in
theorem lp_reach (γ : GE) {b c : Bool} {I : AI} {J : AJ} {Iz : AI} {t kn k1 : Nat} (ht : t < 720) (hkn : kn < 301) (hk1 : k1 ≤ 720) (hB : HBs I J) (hz : kI [37] I Iz) (z6 : Iz 37 6 = I 37 6) (h6 : I 37 6 = I 100 6) (z7 : Iz 37 7 = I 37 7) (h7 : I 37 7 = I 100 7) (z8 : Iz 37 8 = nI kn) (z9 : Iz 37 9 = nI k1) : ∀ (j q : Nat) (J0 : AJ), j = t + 1 - q → k1 ≤ q → (q = k1 ∨ q ≤ t + 1) → kJ [38, 39, 40, 41] J J0 → Rw I J0 kn q → Rj γ mX1_reach 3 0 0 (fun rt S' I' J' => none = rt ∧ (SS b c) = S' ∧ ReP I J t kn I' J') (22, [some (.ref 37), some (.int (nI t)), some (.int (nI kn)), some (.int (nI q))], [], (SS b c), Iz, J0, 0, 0) := by
  intro j
  induction j with
  | zero =>
    intro q J0 hj hq1 hq2 hk hR
    have emx : (if (nI k1) < ((nI t) + 1) then ((nI t) + 1) else (nI k1)) = nI q := by
      rw [nI_eq1]
      by_cases h : k1 < t + 1
      · rw [if_pos (nI_lt h (by omega))]; congr 1; omega
      · rw [if_neg (nI_nlt (by omega) (by omega))]; congr 1; omega
    refine r_run okX1_reach 2 (cs := []) (σ' := (24, [some (.ref 37), some (.int (nI t)), some (.int (nI kn)), some (.int (nI q))], [.int (nI t), .int (nI q)], (SS b c), Iz, J0, 0, 0)) rfl trivial ?_
    refine r_icmp okX1_reach rfl (fun (h24 : (nI t) < (nI q)) => ?_) (fun (h24 : ¬ (nI t) < (nI q)) => ?_)
    · refine r_run okX1_reach 6 (cs := []) (σ' := (158, [some (.ref 37), some (.int (nI t)), some (.int (nI kn)), some (.int (nI q))], [.int ((nI t) + 1), .int (Iz 37 9), .ref 37], (SS b c), Iz, J0, 0, 0)) rfl trivial ?_
      simp only [z9]
      show Rj _ _ _ _ _ _ (158, [some (.ref 37), some (.int (nI t)), some (.int (nI kn)), some (.int (nI q))], [.int ((nI t) + 1), .int (nI k1), .ref 37], (SS b c), Iz, J0, 0, 0)
      refine r_mmax okX1_reach rfl rfl ⟨Nat.le_refl _, Nat.le_refl _⟩ (Nat.le_of_ble_eq_true rfl) ?_
      show Rj _ _ _ _ _ _ (161, [some (.ref 37), some (.int (nI t)), some (.int (nI kn)), some (.int (nI q))], [.int (if (nI k1) < ((nI t) + 1) then ((nI t) + 1) else (nI k1)), .ref 37], (SS b c), Iz, J0, 0, 0)
      refine r_run okX1_reach 1 (cs := []) (σ' := (164, [some (.ref 37), some (.int (nI t)), some (.int (nI kn)), some (.int (nI q))], [], (SS b c), (upI Iz 37 9 (if (nI k1) < ((nI t) + 1) then ((nI t) + 1) else (nI k1))), J0, 0, 0)) rfl trivial ?_
      simp only [emx]
      show Rj _ _ _ _ _ _ (164, [some (.ref 37), some (.int (nI t)), some (.int (nI kn)), some (.int (nI q))], [], (SS b c), (upI Iz 37 9 (nI q)), J0, 0, 0)
      refine r_vret okX1_reach rfl rfl (Nat.le_refl _) (Nat.le_refl _) ?_
      refine ⟨rfl, rfl, kI_t hz (kI_up (List.mem_singleton.mpr rfl)), z6, z7, z8, ⟨q, by omega, by omega, rfl, hR⟩, hk⟩
    · exact absurd (nI_lt (by omega) (by omega)) h24
  | succ j ih =>
    intro q J0 hj hq1 hq2 hk hR
    have hz1 := HBs_37 hz kJ_r hB
    have gz : ∀ a, ¬ a = 37 → Iz a = I a := fun a q => hz a (fun z => q (List.mem_singleton.mp z))
    have hb : ∀ a, 105 ≤ a → a ≤ 115 → Iz a = I a := fun a q1 q2 => gz a (by omega)
    have e13 : Iz 100 13 = I 100 13 := by rw [gz 100 (by omega)]
    obtain ⟨M, hM, eM⟩ := hB.2.2.2.2.1
    obtain ⟨st, hst0, est⟩ := hB.2.2.2.2.2
    have e6 : Iz 37 6 = nI M := (z6.trans h6).trans eM
    have e7 : Iz 37 7 = nI st := (z7.trans h7).trans est
    rcases Nat.lt_trichotomy q st with hst | hst | hst
    · have cq : (nI q).toNatClampNeg = q := nI_clamp (by omega)
      refine r_run okX1_reach 2 (cs := []) (σ' := (24, [some (.ref 37), some (.int (nI t)), some (.int (nI kn)), some (.int (nI q))], [.int (nI t), .int (nI q)], (SS b c), Iz, J0, 0, 0)) rfl trivial ?_
      refine r_icmp okX1_reach rfl (fun (h24 : (nI t) < (nI q)) => ?_) (fun (h24 : ¬ (nI t) < (nI q)) => ?_)
      · exact absurd h24 (nI_nlt (by omega) (by omega))
      · refine r_run okX1_reach 3 (cs := []) (σ' := (32, [some (.ref 37), some (.int (nI t)), some (.int (nI kn)), some (.int (nI q))], [.int (Iz 37 7), .int (nI q)], (SS b c), Iz, J0, 0, 0)) rfl trivial ?_
        simp only [e7]
        show Rj _ _ _ _ _ _ (32, [some (.ref 37), some (.int (nI t)), some (.int (nI kn)), some (.int (nI q))], [.int (nI st), .int (nI q)], (SS b c), Iz, J0, 0, 0)
        refine r_icmp okX1_reach rfl (fun (h32 : (nI st) ≤ (nI q)) => ?_) (fun (h32 : ¬ (nI st) ≤ (nI q)) => ?_)
        · exact absurd h32 (nI_ge (by omega) (by omega))
        · refine r_run okX1_reach 2 (cs := []) (σ' := (39, [some (.ref 37), some (.int (nI t)), some (.int (nI kn)), some (.int (nI q))], [.ref 40], (SS b c), Iz, J0, 0, 0)) rfl trivial ?_
          refine r_callV okX1_reach okX0_clear [] [] 40 rfl rfl rfl kkX0_clear rfl rfl (by decide) rfl rfl rfl (by decide) ⟨Nat.le_refl _, Nat.le_refl _⟩ (Nat.le_of_ble_eq_true rfl) (a_clear γ rfl) (fun v1 S1 I1 J1 hp => ?_)
          obtain ⟨rfl, rfl, rfl, J11, rfl, k11, c11⟩ := hp
          show Rj _ _ _ _ _ _ (42, [some (.ref 37), some (.int (nI t)), some (.int (nI kn)), some (.int (nI q))], [], (SS b c), Iz, J11, 0, 0)
          refine r_run okX1_reach 11 (cs := []) (σ' := (115, [some (.ref 37), some (.int (nI t)), some (.int (nI kn)), some (.int (nI q))], [.ref 16, .ref 41, .ref 40, .int (nI kn), .int (nI q), .ref 29], (SS b c), Iz, J11, 0, 0)) rfl trivial ?_
          refine r_callV okX1_reach okX7_narrow [.int (nI q), .int (nI kn), .ref 40, .ref 41, .ref 16] [] 29 rfl rfl rfl kkX7_narrow rfl rfl (by decide) rfl rfl rfl (by decide) ⟨Nat.le_refl _, Nat.le_refl _⟩ (Nat.le_of_ble_eq_true rfl) (o_narrow γ hz1.1 hz1.2.1 hz1.2.2.1 (HBs_37 hz (kJ_t hk (kJ_m (by decide) k11)) hB).2.2.2.1 (t := q) (kn := kn) (by omega) hkn c11) (fun v1 S1 I1 J1 hp => ?_)
          obtain ⟨rfl, rfl, rfl, k12, c12⟩ := hp
          obtain ⟨J12, hJ12⟩ : ∃ z, z = J1 := ⟨_, rfl⟩
          subst hJ12
          show Rj _ _ _ _ _ _ (118, [some (.ref 37), some (.int (nI t)), some (.int (nI kn)), some (.int (nI q))], [], (SS b c), Iz, J12, 0, 0)
          refine r_run okX1_reach 16 (cs := [vp_in (nI q) 720, vp_in (nI q) 720]) (σ' := (22, [some (.ref 37), some (.int (nI t)), some (.int (nI kn)), some (.int ((nI q) + 1))], [], (SS b c), Iz, (upJ (upJ J12 38 ((nI q).toNatClampNeg) (J12 40 0)) 39 ((nI q).toNatClampNeg) (J12 40 1)), 0, 0)) rfl ⟨(vin (by omega) (by decide)), (vin (by omega) (by decide)), trivial⟩ ?_
          simp only [cq]
          show Rj _ _ _ _ _ _ (22, [some (.ref 37), some (.int (nI t)), some (.int (nI kn)), some (.int ((nI q) + 1))], [], (SS b c), Iz, (upJ (upJ J12 38 q (J12 40 0)) 39 q (J12 40 1)), 0, 0)
          rw [← nI_succ]
          have kk : kJ [40, 41] J0 J12 := (kJ_t (kJ_t kJ_r (kJ_m (P := _) (Q := [40, 41]) (by decide) k11)) (kJ_m (P := _) (Q := [40, 41]) (by decide) k12))
          refine ih (q + 1) _ (by omega) (by omega) (by omega) (kJ_t (kJ_t (kJ_t hk (kJ_m (by decide) k11)) (kJ_m (by decide) k12)) (kJ_t (kJ_up (by decide)) (kJ_up (by decide)))) (fun s hs => ?_)
          by_cases es : s = q
          · rw [es]
            have u1 : (upJ (upJ J12 38 q (J12 40 0)) 39 q ((J12 40 1))) 38 q = J12 40 0 := by simp [upJ]
            have u2 : (upJ (upJ J12 38 q (J12 40 0)) 39 q ((J12 40 1))) 39 q = J12 40 1 := by simp [upJ]
            rw [u1, u2]
            refine ⟨c12.1, c12.2.1, fun x hx => (c12.2.2 x hx).trans ?_⟩
            show (_ && alN Iz kn _ (nv (Iz 100 13)) x) = _
            rw [alN_k hb, e13]
            have hK : mayK I kn q x = false := by
              match q, hst with
              | 0, hst => unfold mayK; rw [est, decide_eq_false (show ¬ (0 : Int32) = nI st from fun z => absurd (nI_inj (a := 0) (b := st) (by omega) (by omega) z) (by omega))]; rfl
              | q + 1, hst => unfold mayK; rw [est, if_pos (nI_lt (by omega) (by omega))]
            rw [hK, Bool.false_and]
          · have u1 : (upJ (upJ J12 38 q (J12 40 0)) 39 q ((J12 40 1))) 38 s = J0 38 s := by
              rw [← kk 38 (by decide)]; simp [upJ, es]
            have u2 : (upJ (upJ J12 38 q (J12 40 0)) 39 q ((J12 40 1))) 39 s = J0 39 s := by
              rw [← kk 39 (by decide)]; simp [upJ, es]
            rw [u1, u2]
            exact hR s (by omega)
    · have cq : (nI q).toNatClampNeg = q := nI_clamp (by omega)
      refine r_run okX1_reach 2 (cs := []) (σ' := (24, [some (.ref 37), some (.int (nI t)), some (.int (nI kn)), some (.int (nI q))], [.int (nI t), .int (nI q)], (SS b c), Iz, J0, 0, 0)) rfl trivial ?_
      refine r_icmp okX1_reach rfl (fun (h24 : (nI t) < (nI q)) => ?_) (fun (h24 : ¬ (nI t) < (nI q)) => ?_)
      · exact absurd h24 (nI_nlt (by omega) (by omega))
      · refine r_run okX1_reach 3 (cs := []) (σ' := (32, [some (.ref 37), some (.int (nI t)), some (.int (nI kn)), some (.int (nI q))], [.int (Iz 37 7), .int (nI q)], (SS b c), Iz, J0, 0, 0)) rfl trivial ?_
        simp only [e7]
        show Rj _ _ _ _ _ _ (32, [some (.ref 37), some (.int (nI t)), some (.int (nI kn)), some (.int (nI q))], [.int (nI st), .int (nI q)], (SS b c), Iz, J0, 0, 0)
        refine r_icmp okX1_reach rfl (fun (h32 : (nI st) ≤ (nI q)) => ?_) (fun (h32 : ¬ (nI st) ≤ (nI q)) => ?_)
        · refine r_run okX1_reach 3 (cs := []) (σ' := (50, [some (.ref 37), some (.int (nI t)), some (.int (nI kn)), some (.int (nI q))], [.int (Iz 37 7), .int (nI q)], (SS b c), Iz, J0, 0, 0)) rfl trivial ?_
          simp only [e7]
          show Rj _ _ _ _ _ _ (50, [some (.ref 37), some (.int (nI t)), some (.int (nI kn)), some (.int (nI q))], [.int (nI st), .int (nI q)], (SS b c), Iz, J0, 0, 0)
          refine r_icmp okX1_reach rfl (fun (h50 : ¬ (nI q) = (nI st)) => ?_) (fun h500 => ?_)
          · exact absurd (by rw [hst]) h50
          · have h50 : (nI q) = (nI st) := Classical.not_not.mp h500
            refine r_run okX1_reach 2 (cs := []) (σ' := (57, [some (.ref 37), some (.int (nI t)), some (.int (nI kn)), some (.int (nI q))], [.ref 40], (SS b c), Iz, J0, 0, 0)) rfl trivial ?_
            refine r_callV okX1_reach okX0_fill [] [] 40 rfl rfl rfl kkX0_fill rfl rfl (by decide) rfl rfl rfl (by decide) ⟨Nat.le_refl _, Nat.le_refl _⟩ (Nat.le_of_ble_eq_true rfl) (a_fill γ rfl) (fun v1 S1 I1 J1 hp => ?_)
            obtain ⟨rfl, rfl, rfl, J11, rfl, k11, c11⟩ := hp
            show Rj _ _ _ _ _ _ (60, [some (.ref 37), some (.int (nI t)), some (.int (nI kn)), some (.int (nI q))], [], (SS b c), Iz, J11, 0, 0)
            refine r_run okX1_reach 11 (cs := []) (σ' := (115, [some (.ref 37), some (.int (nI t)), some (.int (nI kn)), some (.int (nI q))], [.ref 16, .ref 41, .ref 40, .int (nI kn), .int (nI q), .ref 29], (SS b c), Iz, J11, 0, 0)) rfl trivial ?_
            refine r_callV okX1_reach okX7_narrow [.int (nI q), .int (nI kn), .ref 40, .ref 41, .ref 16] [] 29 rfl rfl rfl kkX7_narrow rfl rfl (by decide) rfl rfl rfl (by decide) ⟨Nat.le_refl _, Nat.le_refl _⟩ (Nat.le_of_ble_eq_true rfl) (o_narrow γ hz1.1 hz1.2.1 hz1.2.2.1 (HBs_37 hz (kJ_t hk (kJ_m (by decide) k11)) hB).2.2.2.1 (t := q) (kn := kn) (by omega) hkn c11) (fun v1 S1 I1 J1 hp => ?_)
            obtain ⟨rfl, rfl, rfl, k12, c12⟩ := hp
            obtain ⟨J12, hJ12⟩ : ∃ z, z = J1 := ⟨_, rfl⟩
            subst hJ12
            show Rj _ _ _ _ _ _ (118, [some (.ref 37), some (.int (nI t)), some (.int (nI kn)), some (.int (nI q))], [], (SS b c), Iz, J12, 0, 0)
            refine r_run okX1_reach 16 (cs := [vp_in (nI q) 720, vp_in (nI q) 720]) (σ' := (22, [some (.ref 37), some (.int (nI t)), some (.int (nI kn)), some (.int ((nI q) + 1))], [], (SS b c), Iz, (upJ (upJ J12 38 ((nI q).toNatClampNeg) (J12 40 0)) 39 ((nI q).toNatClampNeg) (J12 40 1)), 0, 0)) rfl ⟨(vin (by omega) (by decide)), (vin (by omega) (by decide)), trivial⟩ ?_
            simp only [cq]
            show Rj _ _ _ _ _ _ (22, [some (.ref 37), some (.int (nI t)), some (.int (nI kn)), some (.int ((nI q) + 1))], [], (SS b c), Iz, (upJ (upJ J12 38 q (J12 40 0)) 39 q (J12 40 1)), 0, 0)
            rw [← nI_succ]
            have kk : kJ [40, 41] J0 J12 := (kJ_t (kJ_t kJ_r (kJ_m (P := _) (Q := [40, 41]) (by decide) k11)) (kJ_m (P := _) (Q := [40, 41]) (by decide) k12))
            refine ih (q + 1) _ (by omega) (by omega) (by omega) (kJ_t (kJ_t (kJ_t hk (kJ_m (by decide) k11)) (kJ_m (by decide) k12)) (kJ_t (kJ_up (by decide)) (kJ_up (by decide)))) (fun s hs => ?_)
            by_cases es : s = q
            · rw [es]
              have u1 : (upJ (upJ J12 38 q (J12 40 0)) 39 q ((J12 40 1))) 38 q = J12 40 0 := by simp [upJ]
              have u2 : (upJ (upJ J12 38 q (J12 40 0)) 39 q ((J12 40 1))) 39 q = J12 40 1 := by simp [upJ]
              rw [u1, u2]
              refine ⟨c12.1, c12.2.1, fun x hx => (c12.2.2 x hx).trans ?_⟩
              show (_ && alN Iz kn _ (nv (Iz 100 13)) x) = _
              rw [alN_k hb, e13]
              have hK : mayK I kn q x = alN I kn q (nv (I 100 13)) x := by
                match q, hst with
                | 0, hst => unfold mayK; rw [est, ← hst, decide_eq_true (by decide), Bool.true_and]
                | q + 1, hst => unfold mayK; rw [est, ← hst, if_neg (nI_nlt (Nat.le_refl _) (by omega)), if_pos rfl, Bool.true_and]
              rw [hK, Bool.true_and]
            · have u1 : (upJ (upJ J12 38 q (J12 40 0)) 39 q ((J12 40 1))) 38 s = J0 38 s := by
                rw [← kk 38 (by decide)]; simp [upJ, es]
              have u2 : (upJ (upJ J12 38 q (J12 40 0)) 39 q ((J12 40 1))) 39 s = J0 39 s := by
                rw [← kk 39 (by decide)]; simp [upJ, es]
              rw [u1, u2]
              exact hR s (by omega)
        · exact absurd (nI_le (by omega) (by omega)) h32
    · obtain ⟨q1, rfl⟩ : ∃ z, q = z + 1 := ⟨q - 1, by omega⟩
      have cq : (nI (q1 + 1)).toNatClampNeg = (q1 + 1) := nI_clamp (by omega)
      have cq1 : (nI q1).toNatClampNeg = q1 := nI_clamp (by omega)
      refine r_run okX1_reach 2 (cs := []) (σ' := (24, [some (.ref 37), some (.int (nI t)), some (.int (nI kn)), some (.int (nI (q1 + 1)))], [.int (nI t), .int (nI (q1 + 1))], (SS b c), Iz, J0, 0, 0)) rfl trivial ?_
      refine r_icmp okX1_reach rfl (fun (h24 : (nI t) < (nI (q1 + 1))) => ?_) (fun (h24 : ¬ (nI t) < (nI (q1 + 1))) => ?_)
      · exact absurd h24 (nI_nlt (by omega) (by omega))
      · refine r_run okX1_reach 3 (cs := []) (σ' := (32, [some (.ref 37), some (.int (nI t)), some (.int (nI kn)), some (.int (nI (q1 + 1)))], [.int (Iz 37 7), .int (nI (q1 + 1))], (SS b c), Iz, J0, 0, 0)) rfl trivial ?_
        simp only [e7]
        show Rj _ _ _ _ _ _ (32, [some (.ref 37), some (.int (nI t)), some (.int (nI kn)), some (.int (nI (q1 + 1)))], [.int (nI st), .int (nI (q1 + 1))], (SS b c), Iz, J0, 0, 0)
        refine r_icmp okX1_reach rfl (fun (h32 : (nI st) ≤ (nI (q1 + 1))) => ?_) (fun (h32 : ¬ (nI st) ≤ (nI (q1 + 1))) => ?_)
        · refine r_run okX1_reach 3 (cs := []) (σ' := (50, [some (.ref 37), some (.int (nI t)), some (.int (nI kn)), some (.int (nI (q1 + 1)))], [.int (Iz 37 7), .int (nI (q1 + 1))], (SS b c), Iz, J0, 0, 0)) rfl trivial ?_
          simp only [e7]
          show Rj _ _ _ _ _ _ (50, [some (.ref 37), some (.int (nI t)), some (.int (nI kn)), some (.int (nI (q1 + 1)))], [.int (nI st), .int (nI (q1 + 1))], (SS b c), Iz, J0, 0, 0)
          refine r_icmp okX1_reach rfl (fun (h50 : ¬ (nI (q1 + 1)) = (nI st)) => ?_) (fun h500 => ?_)
          · refine r_run okX1_reach 14 (cs := [vp_in ((nI (q1 + 1)) - 1) 720, vp_in ((nI (q1 + 1)) - 1) 720]) (σ' := (83, [some (.ref 37), some (.int (nI t)), some (.int (nI kn)), some (.int (nI (q1 + 1)))], [.long (J0 39 (((nI (q1 + 1)) - 1).toNatClampNeg)), .long (J0 38 (((nI (q1 + 1)) - 1).toNatClampNeg)), .ref 40], (SS b c), Iz, J0, 0, 0)) rfl ⟨(by rw [nI_pred]; exact vin (by omega) (by decide)), (by rw [nI_pred]; exact vin (by omega) (by decide)), trivial⟩ ?_
            simp only [nI_pred, cq1]
            show Rj _ _ _ _ _ _ (83, [some (.ref 37), some (.int (nI t)), some (.int (nI kn)), some (.int (nI (q1 + 1)))], [.long (J0 39 q1), .long (J0 38 q1), .ref 40], (SS b c), Iz, J0, 0, 0)
            refine r_callV okX1_reach okX0_load [.long (J0 38 q1), .long (J0 39 q1)] [] 40 rfl rfl rfl kkX0_load rfl rfl (by decide) rfl rfl rfl (by decide) ⟨Nat.le_refl _, Nat.le_refl _⟩ (Nat.le_of_ble_eq_true rfl) (a_load γ rfl (f := mayK I kn q1) (hR q1 (by omega)).1 (hR q1 (by omega)).2.1 (hR q1 (by omega)).2.2) (fun v1 S1 I1 J1 hp => ?_)
            obtain ⟨rfl, rfl, rfl, J11, rfl, k11, c11⟩ := hp
            show Rj _ _ _ _ _ _ (86, [some (.ref 37), some (.int (nI t)), some (.int (nI kn)), some (.int (nI (q1 + 1)))], [], (SS b c), Iz, J11, 0, 0)
            refine r_run okX1_reach 4 (cs := []) (σ' := (94, [some (.ref 37), some (.int (nI t)), some (.int (nI kn)), some (.int (nI (q1 + 1)))], [.int (Iz 37 6), .ref 40], (SS b c), Iz, J11, 0, 0)) rfl trivial ?_
            simp only [e6]
            show Rj _ _ _ _ _ _ (94, [some (.ref 37), some (.int (nI t)), some (.int (nI kn)), some (.int (nI (q1 + 1)))], [.int (nI M), .ref 40], (SS b c), Iz, J11, 0, 0)
            refine r_callV okX1_reach okX0_spread [.int (nI M)] [] 40 rfl rfl rfl kkX0_spread rfl rfl (by decide) rfl rfl rfl (by decide) ⟨Nat.le_refl _, Nat.le_refl _⟩ (Nat.le_of_ble_eq_true rfl) (a_spread γ rfl c11 hM rfl) (fun v1 S1 I1 J1 hp => ?_)
            obtain ⟨rfl, rfl, rfl, J12, rfl, k12, c12⟩ := hp
            show Rj _ _ _ _ _ _ (97, [some (.ref 37), some (.int (nI t)), some (.int (nI kn)), some (.int (nI (q1 + 1)))], [], (SS b c), Iz, J12, 0, 0)
            refine r_run okX1_reach 10 (cs := []) (σ' := (115, [some (.ref 37), some (.int (nI t)), some (.int (nI kn)), some (.int (nI (q1 + 1)))], [.ref 16, .ref 41, .ref 40, .int (nI kn), .int (nI (q1 + 1)), .ref 29], (SS b c), Iz, J12, 0, 0)) rfl trivial ?_
            refine r_callV okX1_reach okX7_narrow [.int (nI (q1 + 1)), .int (nI kn), .ref 40, .ref 41, .ref 16] [] 29 rfl rfl rfl kkX7_narrow rfl rfl (by decide) rfl rfl rfl (by decide) ⟨Nat.le_refl _, Nat.le_refl _⟩ (Nat.le_of_ble_eq_true rfl) (o_narrow γ hz1.1 hz1.2.1 hz1.2.2.1 (HBs_37 hz (kJ_t (kJ_t hk (kJ_m (by decide) k11)) (kJ_m (by decide) k12)) hB).2.2.2.1 (t := q1 + 1) (kn := kn) (by omega) hkn c12) (fun v1 S1 I1 J1 hp => ?_)
            obtain ⟨rfl, rfl, rfl, k13, c13⟩ := hp
            obtain ⟨J13, hJ13⟩ : ∃ z, z = J1 := ⟨_, rfl⟩
            subst hJ13
            show Rj _ _ _ _ _ _ (118, [some (.ref 37), some (.int (nI t)), some (.int (nI kn)), some (.int (nI (q1 + 1)))], [], (SS b c), Iz, J13, 0, 0)
            refine r_run okX1_reach 16 (cs := [vp_in (nI (q1 + 1)) 720, vp_in (nI (q1 + 1)) 720]) (σ' := (22, [some (.ref 37), some (.int (nI t)), some (.int (nI kn)), some (.int ((nI (q1 + 1)) + 1))], [], (SS b c), Iz, (upJ (upJ J13 38 ((nI (q1 + 1)).toNatClampNeg) (J13 40 0)) 39 ((nI (q1 + 1)).toNatClampNeg) (J13 40 1)), 0, 0)) rfl ⟨(vin (by omega) (by decide)), (vin (by omega) (by decide)), trivial⟩ ?_
            simp only [cq]
            show Rj _ _ _ _ _ _ (22, [some (.ref 37), some (.int (nI t)), some (.int (nI kn)), some (.int ((nI (q1 + 1)) + 1))], [], (SS b c), Iz, (upJ (upJ J13 38 (q1 + 1) (J13 40 0)) 39 (q1 + 1) (J13 40 1)), 0, 0)
            rw [← nI_succ]
            have kk : kJ [40, 41] J0 J13 := (kJ_t (kJ_t (kJ_t kJ_r (kJ_m (P := _) (Q := [40, 41]) (by decide) k11)) (kJ_m (P := _) (Q := [40, 41]) (by decide) k12)) (kJ_m (P := _) (Q := [40, 41]) (by decide) k13))
            refine ih (q1 + 1 + 1) _ (by omega) (by omega) (by omega) (kJ_t (kJ_t (kJ_t (kJ_t hk (kJ_m (by decide) k11)) (kJ_m (by decide) k12)) (kJ_m (by decide) k13)) (kJ_t (kJ_up (by decide)) (kJ_up (by decide)))) (fun s hs => ?_)
            by_cases es : s = (q1 + 1)
            · rw [es]
              have u1 : (upJ (upJ J13 38 (q1 + 1) (J13 40 0)) 39 (q1 + 1) ((J13 40 1))) 38 (q1 + 1) = J13 40 0 := by simp [upJ]
              have u2 : (upJ (upJ J13 38 (q1 + 1) (J13 40 0)) 39 (q1 + 1) ((J13 40 1))) 39 (q1 + 1) = J13 40 1 := by simp [upJ]
              rw [u1, u2]
              refine ⟨c13.1, c13.2.1, fun x hx => (c13.2.2 x hx).trans ?_⟩
              show (_ && alN Iz kn _ (nv (Iz 100 13)) x) = _
              rw [alN_k hb, e13]
              have hK : mayK I kn (q1 + 1) x = (fromN (nI M) (mayK I kn q1) 96 x && alN I kn (q1 + 1) (nv (I 100 13)) x) := by
                rw [mayK, est, eM, if_neg (nI_nlt (by omega) (by omega)), if_neg (fun z => absurd (nI_inj (by omega) (by omega) z) (by omega))]
              rw [hK]
            · have u1 : (upJ (upJ J13 38 (q1 + 1) (J13 40 0)) 39 (q1 + 1) ((J13 40 1))) 38 s = J0 38 s := by
                rw [← kk 38 (by decide)]; simp [upJ, es]
              have u2 : (upJ (upJ J13 38 (q1 + 1) (J13 40 0)) 39 (q1 + 1) ((J13 40 1))) 39 s = J0 39 s := by
                rw [← kk 39 (by decide)]; simp [upJ, es]
              rw [u1, u2]
              exact hR s (by omega)
          · have h50 : (nI (q1 + 1)) = (nI st) := Classical.not_not.mp h500
            exact absurd (nI_inj (by omega) (by omega) h50) (by omega)
        · exact absurd (nI_le (by omega) (by omega)) h32
theorem o_reach (γ : GE) {b c : Bool} {I : AI} {J : AJ} {t kn : Nat} (ht : t < 720) (hkn : kn < 301) (hB : HBs I J) (hH : OHea I J) : Ct γ mX1_reach 3 0 0 [.ref 37, .int (nI t), .int (nI kn)] (SS b c) I J (fun rt S' I' J' => none = rt ∧ (SS b c) = S' ∧ ReP I J t kn I' J') := by
  obtain ⟨h6, h7, kk, km, hkk0, hkm, e8, e9, hRw⟩ := hH
  have hkk : kk < 301 := Nat.lt_of_le_of_lt hkk0 (rg_nv hB.2.1.1 (by decide)).1
  by_cases hne : kn = kk
  · subst hne
    refine ct_of okX1_reach (L := [some (.ref 37), some (.int (nI t)), some (.int (nI kn)), none]) (Nat.le_of_ble_eq_true rfl) rfl ?_
    refine r_run okX1_reach 3 (cs := []) (σ' := (5, [some (.ref 37), some (.int (nI t)), some (.int (nI kn)), none], [.int (I 37 8), .int (nI kn)], (SS b c), I, J, 0, 0)) rfl trivial ?_
    simp only [e8]
    show Rj _ _ _ _ _ _ (5, [some (.ref 37), some (.int (nI t)), some (.int (nI kn)), none], [.int (nI kn), .int (nI kn)], (SS b c), I, J, 0, 0)
    refine r_icmp okX1_reach rfl (fun (h5 : (nI kn) = (nI kn)) => ?_) (fun (h5 : ¬ (nI kn) = (nI kn)) => ?_)
    · refine r_run okX1_reach 3 (cs := []) (σ' := (22, [some (.ref 37), some (.int (nI t)), some (.int (nI kn)), some (.int (I 37 9))], [], (SS b c), I, J, 0, 0)) rfl trivial ?_
      simp only [e9]
      show Rj _ _ _ _ _ _ (22, [some (.ref 37), some (.int (nI t)), some (.int (nI kn)), some (.int (nI km))], [], (SS b c), I, J, 0, 0)
      exact lp_reach γ ht hkn hkm hB kI_r rfl h6 rfl h7 e8 e9 (t + 1 - km) km J rfl (Nat.le_refl _) (Or.inl rfl) kJ_r hRw
    · exact absurd rfl h5
  · refine ct_of okX1_reach (L := [some (.ref 37), some (.int (nI t)), some (.int (nI kn)), none]) (Nat.le_of_ble_eq_true rfl) rfl ?_
    refine r_run okX1_reach 3 (cs := []) (σ' := (5, [some (.ref 37), some (.int (nI t)), some (.int (nI kn)), none], [.int (I 37 8), .int (nI kn)], (SS b c), I, J, 0, 0)) rfl trivial ?_
    simp only [e8]
    show Rj _ _ _ _ _ _ (5, [some (.ref 37), some (.int (nI t)), some (.int (nI kn)), none], [.int (nI kk), .int (nI kn)], (SS b c), I, J, 0, 0)
    refine r_icmp okX1_reach rfl (fun (h5 : (nI kn) = (nI kk)) => ?_) (fun (h5 : ¬ (nI kn) = (nI kk)) => ?_)
    · exact absurd (nI_inj (by omega) (by omega) h5) hne
    · refine r_run okX1_reach 1 (cs := []) (σ' := (9, [some (.ref 37), some (.int (nI t)), some (.int (nI kn)), none], [.ref 37], (SS b c), I, J, 0, 0)) rfl trivial ?_
      refine r_callV okX1_reach okX1_forget [] [] 37 rfl rfl rfl kkX1_forget rfl rfl (by decide) rfl rfl rfl (by decide) ⟨Nat.le_refl _, Nat.le_refl _⟩ (Nat.le_of_ble_eq_true rfl) (o_forget γ) (fun v1 S1 I1 J1 hp => ?_)
      obtain ⟨rfl, rfl, rfl, rfl⟩ := hp
      show Rj _ _ _ _ _ _ (12, [some (.ref 37), some (.int (nI t)), some (.int (nI kn)), none], [], (SS b c), (upI I 37 9 0), J, 0, 0)
      refine r_run okX1_reach 6 (cs := []) (σ' := (22, [some (.ref 37), some (.int (nI t)), some (.int (nI kn)), some (.int 0)], [], (SS b c), (upI (upI I 37 9 0) 37 8 (nI kn)), J, 0, 0)) rfl trivial ?_
      exact lp_reach γ (k1 := 0) ht hkn (by omega) hB (kI_t (kI_up (List.mem_singleton.mpr rfl)) (kI_up (List.mem_singleton.mpr rfl))) rfl h6 rfl h7 rfl rfl (t + 1) 0 J (by omega) (Nat.le_refl _) (Or.inl rfl) kJ_r (fun s hs => absurd hs (Nat.not_lt_zero s))
