/-! ===== Tellings: narrow, recentIn ===== -/
def alN (I : AI) (kn t m x : Nat) : Bool := (List.range m).all fun i => !(decide (I 112 i = nI t) && decide (i < kn)) || allB I i x
theorem alN_none {I : AI} {kn t x : Nat} : ∀ {m : Nat}, lsT I (nI t) m = none → alN I kn t m x = true
  | 0, _ => rfl
  | m + 1, h => by
    unfold lsT at h
    split at h
    · cases h
    · rename_i e
      unfold alN
      rw [all_s]
      have := alN_none (kn := kn) (x := x) h
      unfold alN at this
      rw [this, decide_eq_false e]; rfl
theorem alN_some {I : AI} {kn t x : Nat} : ∀ {m p : Nat}, lsT I (nI t) m = some p → alN I kn t m x = ((!decide (p < kn) || allB I p x) && alN I kn t p x)
  | 0, _, h => by cases h
  | m + 1, p, h => by
    unfold lsT at h
    split at h
    · rename_i e
      cases h
      unfold alN
      rw [all_s, decide_eq_true e, Bool.true_and, Bool.and_comm]
    · rename_i e
      have := alN_some (kn := kn) (x := x) h
      rw [← this]
      unfold alN
      rw [all_s, decide_eq_false e]; simp
/-- the office's radars are the reference's -/
def ORad (I : AI) (J : AJ) : Prop := ∀ r, r < 3 → I (17 + 4 * r) 3 = I 105 r ∧ I (17 + 4 * r) 4 = I 108 r ∧ cs J (18 + 4 * r) (seesB I r) ∧ cs J (20 + 4 * r) (fun x => decide (¬ I 109 (96 * r + x) = 0)) ∧ (¬ I 105 r = 0 → cs J (19 + 4 * r) (fun x => decide (farN x (nv (I 106 r)) ≤ nv (I 107 r))))
theorem lp_nar (γ : GE) {b c : Bool} {I : AI} {J : AJ} (hO : OTel I) (hT : MTel I) (hM : MRad I) (hR : ORad I J) {n t kn : Nat} (hn : n < 301) (en : nv (I 100 13) = n) (F : Nat → Bool) (hkn : kn < 301) : ∀ (m l : Nat) (f : Nat → Bool) (J0 : AJ), m ≤ l → l < 301 → m ≤ n → kJ [40, 41] J J0 → cs J0 40 f → (∀ x, x < 96 → (f x && alN I kn t m x) = F x) → Rj γ mX7_narrow 2 0 0 (fun rt S' I' J' => none = rt ∧ (SS b c) = S' ∧ I = I' ∧ kJ [40, 41] J J' ∧ cs J' 40 F) (14, [some (.ref 29), some (.int (nI t)), some (.int (nI kn)), some (.ref 40), some (.ref 41), some (.ref 16), some (.int (bsI (lsT I (nI t) m))), some (.int (nI l))], [], (SS b c), I, J0, 0, 0) := by
  intro m
  induction m using Nat.strongRecOn with
  | ind m ih =>
    intro l f J0 hl hl3 hmn hk hc hF
    cases he : lsT I (nI t) m with
    | none =>
      refine r_run okX7_narrow 1 (cs := []) (σ' := (16, [some (.ref 29), some (.int (nI t)), some (.int (nI kn)), some (.ref 40), some (.ref 41), some (.ref 16), some (.int (bsI none)), some (.int (nI l))], [.int (bsI none)], (SS b c), I, J0, 0, 0)) rfl trivial ?_
      refine r_ifc okX7_narrow rfl (fun (h16 : (bsI none) < (0 : Int32)) => ?_) (fun (h16 : ¬ (bsI none) < (0 : Int32)) => ?_)
      · refine r_vret okX7_narrow rfl rfl (Nat.le_refl _) (Nat.le_refl _) ?_
        exact ⟨rfl, rfl, rfl, hk, cs_f (fun x hx => by rw [← hF x hx, alN_none he, Bool.and_true]) hc⟩
      · exact absurd bs_none h16
    | some p =>
      obtain ⟨hp, ep⟩ := lsT_lt he
      obtain ⟨l, rfl⟩ : ∃ q, l = q + 1 := ⟨l - 1, by omega⟩
      have cp : (nI p).toNatClampNeg = p := nI_clamp (by omega)
      obtain ⟨q1, q2, q3, q4, q5, e35⟩ := hO.2.1 p (by omega)
      rw [ep] at e35
      obtain ⟨⟨kd, hkd, ekd⟩, ⟨r, hr, er⟩, -, ⟨y, hy, ey⟩, h2, -⟩ := hT.2 p (by omega)
      have e32 : I 32 p = nI y := q3.trans ey
      rw [ekd] at q1
      by_cases hpk : p < kn
      · have hk4 : kd = 0 ∨ kd = 1 ∨ kd = 2 ∨ kd = 3 := by omega
        rcases hk4 with rfl | rfl | rfl | rfl
        · have e33 : I 33 p = nI r := q4.trans (by unfold mes; rw [ekd, if_pos (by decide)]; exact er)
          obtain ⟨g, hg, eg8⟩ := (hM.1 r hr).2.2.2
          have eg : I (17 + 4 * r) 4 = nI g := (hR r hr).2.1.trans eg8
          have e30 : I 30 p = 0 := q1.trans (by decide)
          refine r_run okX7_narrow 1 (cs := []) (σ' := (16, [some (.ref 29), some (.int (nI t)), some (.int (nI kn)), some (.ref 40), some (.ref 41), some (.ref 16), some (.int (nI p)), some (.int (nI (l + 1)))], [.int (nI p)], (SS b c), I, J0, 0, 0)) rfl trivial ?_
          refine r_ifc okX7_narrow rfl (fun (h16 : (nI p) < (0 : Int32)) => ?_) (fun (h16 : ¬ (nI p) < (0 : Int32)) => ?_)
          · exact absurd h16 (bs_some (by omega))
          · refine r_run okX7_narrow 1 (cs := []) (σ' := (21, [some (.ref 29), some (.int (nI t)), some (.int (nI kn)), some (.ref 40), some (.ref 41), some (.ref 16), some (.int (nI p)), some (.int (nI (l + 1)))], [.int (nI (l + 1))], (SS b c), I, J0, 0, 0)) rfl trivial ?_
            refine r_ifc okX7_narrow rfl (fun (h21 : (nI (l + 1)) ≤ (0 : Int32)) => ?_) (fun (h21 : ¬ (nI (l + 1)) ≤ (0 : Int32)) => ?_)
            · exact absurd h21 (nI_nle (by omega) (by omega))
            · refine r_run okX7_narrow 2 (cs := []) (σ' := (27, [some (.ref 29), some (.int (nI t)), some (.int (nI kn)), some (.ref 40), some (.ref 41), some (.ref 16), some (.int (nI p)), some (.int (nI (l + 1)))], [.int (nI kn), .int (nI p)], (SS b c), I, J0, 0, 0)) rfl trivial ?_
              refine r_icmp okX7_narrow rfl (fun (h27 : (nI kn) ≤ (nI p)) => ?_) (fun (h27 : ¬ (nI kn) ≤ (nI p)) => ?_)
              · exact absurd h27 (nI_ge hpk (by omega))
              · refine r_run okX7_narrow 5 (cs := [vp_in (nI p) 300]) (σ' := (38, [some (.ref 29), some (.int (nI t)), some (.int (nI kn)), some (.ref 40), some (.ref 41), some (.ref 16), some (.int (nI p)), some (.int (nI (l + 1)))], [.int 2, .int (I 30 ((nI p).toNatClampNeg))], (SS b c), I, J0, 0, 0)) rfl ⟨(vin (by omega) (by decide)), trivial⟩ ?_
                simp only [cp, e30]
                show Rj _ _ _ _ _ _ (38, [some (.ref 29), some (.int (nI t)), some (.int (nI kn)), some (.ref 40), some (.ref 41), some (.ref 16), some (.int (nI p)), some (.int (nI (l + 1)))], [.int 2, .int 0], (SS b c), I, J0, 0, 0)
                refine r_icmp okX7_narrow rfl (fun (h38 : ¬ (0 : Int32) = (2 : Int32)) => ?_) (fun h380 => ?_)
                · refine r_run okX7_narrow 5 (cs := [vp_in (nI p) 300]) (σ' := (52, [some (.ref 29), some (.int (nI t)), some (.int (nI kn)), some (.ref 40), some (.ref 41), some (.ref 16), some (.int (nI p)), some (.int (nI (l + 1)))], [.int 3, .int (I 30 ((nI p).toNatClampNeg))], (SS b c), I, J0, 0, 0)) rfl ⟨(vin (by omega) (by decide)), trivial⟩ ?_
                  simp only [cp, e30]
                  show Rj _ _ _ _ _ _ (52, [some (.ref 29), some (.int (nI t)), some (.int (nI kn)), some (.ref 40), some (.ref 41), some (.ref 16), some (.int (nI p)), some (.int (nI (l + 1)))], [.int 3, .int 0], (SS b c), I, J0, 0, 0)
                  refine r_icmp okX7_narrow rfl (fun (h52 : ¬ (0 : Int32) = (3 : Int32)) => ?_) (fun h520 => ?_)
                  · refine r_run okX7_narrow 9 (cs := [vp_in (nI p) 300, vp_in (nI p) 300]) (σ' := (91, [some (.ref 29), some (.int (nI t)), some (.int (nI kn)), some (.ref 40), some (.ref 41), some (.ref 16), some (.int (nI p)), some (.int (nI (l + 1)))], [.int (I 30 ((nI p).toNatClampNeg)), .int (I 32 ((nI p).toNatClampNeg)), .ref 41], (SS b c), I, J0, 0, 0)) rfl ⟨(vin (by omega) (by decide)), (vin (by omega) (by decide)), trivial⟩ ?_
                    simp only [cp, e32, e30]
                    show Rj _ _ _ _ _ _ (91, [some (.ref 29), some (.int (nI t)), some (.int (nI kn)), some (.ref 40), some (.ref 41), some (.ref 16), some (.int (nI p)), some (.int (nI (l + 1)))], [.int 0, .int (nI y), .ref 41], (SS b c), I, J0, 0, 0)
                    refine r_ifc okX7_narrow rfl (fun (h91 : ¬ (0 : Int32) = (0 : Int32)) => ?_) (fun h910 => ?_)
                    · exact absurd h91 (by decide)
                    · have h91 : (0 : Int32) = (0 : Int32) := Classical.not_not.mp h910
                      refine r_run okX7_narrow 5 (cs := [vp_in (nI p) 300]) (σ' := (103, [some (.ref 29), some (.int (nI t)), some (.int (nI kn)), some (.ref 40), some (.ref 41), some (.ref 16), some (.int (nI p)), some (.int (nI (l + 1)))], [.int (I 33 ((nI p).toNatClampNeg)), .ref 16, .int (nI y), .ref 41], (SS b c), I, J0, 0, 0)) rfl ⟨(vin (by omega) (by decide)), trivial⟩ ?_
                      simp only [cp, e33]
                      show Rj _ _ _ _ _ _ (103, [some (.ref 29), some (.int (nI t)), some (.int (nI kn)), some (.ref 40), some (.ref 41), some (.ref 16), some (.int (nI p)), some (.int (nI (l + 1)))], [.int (nI r), .ref 16, .int (nI y), .ref 41], (SS b c), I, J0, 0, 0)
                      refine r_aald okX7_narrow rfl rfl (vin hr (by decide)) (by first | exact Or.inl rfl | exact Or.inr rfl) (L16 r hr) ?_
                      show Rj _ _ _ _ _ _ (104, [some (.ref 29), some (.int (nI t)), some (.int (nI kn)), some (.ref 40), some (.ref 41), some (.ref 16), some (.int (nI p)), some (.int (nI (l + 1)))], [.ref (17 + 4 * r), .int (nI y), .ref 41], (SS b c), I, J0, 0, 0)
                      refine r_callV okX7_narrow okX4_off [] [.int (nI y), .ref 41] (17 + 4 * r) rfl rfl rfl kkX4_off rfl rfl (by decide) (SSr hr) rfl rfl (by decide) ⟨Nat.le_refl _, Nat.le_refl _⟩ (Nat.le_of_ble_eq_true rfl) (o_roff γ hr) (fun v1 S1 I1 J1 hp => ?_)
                      obtain ⟨rfl, rfl, rfl, rfl⟩ := hp
                      show Rj _ _ _ _ _ _ (107, [some (.ref 29), some (.int (nI t)), some (.int (nI kn)), some (.ref 40), some (.ref 41), some (.ref 16), some (.int (nI p)), some (.int (nI (l + 1)))], [.int (I (17 + 4 * r) 4), .int (nI y), .ref 41], (SS b c), I, J0, 0, 0)
                      simp only [eg]
                      show Rj _ _ _ _ _ _ (107, [some (.ref 29), some (.int (nI t)), some (.int (nI kn)), some (.ref 40), some (.ref 41), some (.ref 16), some (.int (nI p)), some (.int (nI (l + 1)))], [.int (nI g), .int (nI y), .ref 41], (SS b c), I, J0, 0, 0)
                      refine r_run okX7_narrow 1 (cs := []) (σ' := (117, [some (.ref 29), some (.int (nI t)), some (.int (nI kn)), some (.ref 40), some (.ref 41), some (.ref 16), some (.int (nI p)), some (.int (nI (l + 1)))], [.int (nI g), .int (nI y), .ref 41], (SS b c), I, J0, 0, 0)) rfl trivial ?_
                      refine r_callV okX7_narrow okX0_circle [.int (nI y), .int (nI g)] [] 41 rfl rfl rfl kkX0_circle rfl rfl (by decide) rfl rfl rfl (by decide) ⟨Nat.le_refl _, Nat.le_refl _⟩ (Nat.le_of_ble_eq_true rfl) (a_circle γ rfl (x := y) (r := g) hy (by omega) rfl rfl) (fun v1 S1 I1 J1 hp => ?_)
                      obtain ⟨rfl, rfl, rfl, J1, rfl, k1, c1⟩ := hp
                      show Rj _ _ _ _ _ _ (120, [some (.ref 29), some (.int (nI t)), some (.int (nI kn)), some (.ref 40), some (.ref 41), some (.ref 16), some (.int (nI p)), some (.int (nI (l + 1)))], [], (SS b c), I, J1, 0, 0)
                      refine r_run okX7_narrow 2 (cs := []) (σ' := (123, [some (.ref 29), some (.int (nI t)), some (.int (nI kn)), some (.ref 40), some (.ref 41), some (.ref 16), some (.int (nI p)), some (.int (nI (l + 1)))], [.ref 41, .ref 40], (SS b c), I, J1, 0, 0)) rfl trivial ?_
                      refine r_callV okX7_narrow okX0_keep [.ref 41] [] 40 rfl rfl rfl kkX0_keep rfl rfl (by decide) rfl rfl rfl (by decide) ⟨Nat.le_refl _, Nat.le_refl _⟩ (Nat.le_of_ble_eq_true rfl) (a_keep γ rfl (cs_k (k1 40 (by decide)) hc) rfl (by decide) c1) (fun v1 S1 I1 J1 hp => ?_)
                      obtain ⟨rfl, rfl, rfl, J2, rfl, k2, c2⟩ := hp
                      show Rj _ _ _ _ _ _ (126, [some (.ref 29), some (.int (nI t)), some (.int (nI kn)), some (.ref 40), some (.ref 41), some (.ref 16), some (.int (nI p)), some (.int (nI (l + 1)))], [], (SS b c), I, J2, 0, 0)
                      refine r_run okX7_narrow 7 (cs := [vp_in (nI p) 300]) (σ' := (14, [some (.ref 29), some (.int (nI t)), some (.int (nI kn)), some (.ref 40), some (.ref 41), some (.ref 16), some (.int (I 35 ((nI p).toNatClampNeg))), some (.int ((nI (l + 1)) + (-1)))], [], (SS b c), I, J2, 0, 0)) rfl ⟨(vin (by omega) (by decide)), trivial⟩ ?_
                      simp only [cp, e35, pk_m1]
                      show Rj _ _ _ _ _ _ (14, [some (.ref 29), some (.int (nI t)), some (.int (nI kn)), some (.ref 40), some (.ref 41), some (.ref 16), some (.int (bsI (lsT I (nI t) p))), some (.int (nI l))], [], (SS b c), I, J2, 0, 0)
                      refine ih p hp l (fun xx => f xx && (fun yy => decide (farN yy y ≤ g)) xx) J2 (by omega) (by omega) (by omega) (kJ_t hk (kJ_t (kJ_m (by decide) k1) (kJ_m (by decide) k2))) c2 (fun x hx => ?_)
                      have hab : allB I p x = decide (farN x y ≤ g) := by unfold allB; rw [ekd, if_pos (by decide), ey, nv_nI (by omega), er, nv_nI (by omega), eg8, nv_nI (by omega)]
                      rw [← hF x hx, alN_some he, hab, decide_eq_true hpk]
                      simp [Bool.and_assoc]
                  · have h52 : (0 : Int32) = (3 : Int32) := Classical.not_not.mp h520
                    exact absurd h52 (by decide)
                · have h38 : (0 : Int32) = (2 : Int32) := Classical.not_not.mp h380
                  exact absurd h38 (by decide)
        · have e33 : I 33 p = nI r := q4.trans (by unfold mes; rw [ekd, if_pos (by decide)]; exact er)
          have e30 : I 30 p = 3 := q1.trans (by decide)
          refine r_run okX7_narrow 1 (cs := []) (σ' := (16, [some (.ref 29), some (.int (nI t)), some (.int (nI kn)), some (.ref 40), some (.ref 41), some (.ref 16), some (.int (nI p)), some (.int (nI (l + 1)))], [.int (nI p)], (SS b c), I, J0, 0, 0)) rfl trivial ?_
          refine r_ifc okX7_narrow rfl (fun (h16 : (nI p) < (0 : Int32)) => ?_) (fun (h16 : ¬ (nI p) < (0 : Int32)) => ?_)
          · exact absurd h16 (bs_some (by omega))
          · refine r_run okX7_narrow 1 (cs := []) (σ' := (21, [some (.ref 29), some (.int (nI t)), some (.int (nI kn)), some (.ref 40), some (.ref 41), some (.ref 16), some (.int (nI p)), some (.int (nI (l + 1)))], [.int (nI (l + 1))], (SS b c), I, J0, 0, 0)) rfl trivial ?_
            refine r_ifc okX7_narrow rfl (fun (h21 : (nI (l + 1)) ≤ (0 : Int32)) => ?_) (fun (h21 : ¬ (nI (l + 1)) ≤ (0 : Int32)) => ?_)
            · exact absurd h21 (nI_nle (by omega) (by omega))
            · refine r_run okX7_narrow 2 (cs := []) (σ' := (27, [some (.ref 29), some (.int (nI t)), some (.int (nI kn)), some (.ref 40), some (.ref 41), some (.ref 16), some (.int (nI p)), some (.int (nI (l + 1)))], [.int (nI kn), .int (nI p)], (SS b c), I, J0, 0, 0)) rfl trivial ?_
              refine r_icmp okX7_narrow rfl (fun (h27 : (nI kn) ≤ (nI p)) => ?_) (fun (h27 : ¬ (nI kn) ≤ (nI p)) => ?_)
              · exact absurd h27 (nI_ge hpk (by omega))
              · refine r_run okX7_narrow 5 (cs := [vp_in (nI p) 300]) (σ' := (38, [some (.ref 29), some (.int (nI t)), some (.int (nI kn)), some (.ref 40), some (.ref 41), some (.ref 16), some (.int (nI p)), some (.int (nI (l + 1)))], [.int 2, .int (I 30 ((nI p).toNatClampNeg))], (SS b c), I, J0, 0, 0)) rfl ⟨(vin (by omega) (by decide)), trivial⟩ ?_
                simp only [cp, e30]
                show Rj _ _ _ _ _ _ (38, [some (.ref 29), some (.int (nI t)), some (.int (nI kn)), some (.ref 40), some (.ref 41), some (.ref 16), some (.int (nI p)), some (.int (nI (l + 1)))], [.int 2, .int 3], (SS b c), I, J0, 0, 0)
                refine r_icmp okX7_narrow rfl (fun (h38 : ¬ (3 : Int32) = (2 : Int32)) => ?_) (fun h380 => ?_)
                · refine r_run okX7_narrow 5 (cs := [vp_in (nI p) 300]) (σ' := (52, [some (.ref 29), some (.int (nI t)), some (.int (nI kn)), some (.ref 40), some (.ref 41), some (.ref 16), some (.int (nI p)), some (.int (nI (l + 1)))], [.int 3, .int (I 30 ((nI p).toNatClampNeg))], (SS b c), I, J0, 0, 0)) rfl ⟨(vin (by omega) (by decide)), trivial⟩ ?_
                  simp only [cp, e30]
                  show Rj _ _ _ _ _ _ (52, [some (.ref 29), some (.int (nI t)), some (.int (nI kn)), some (.ref 40), some (.ref 41), some (.ref 16), some (.int (nI p)), some (.int (nI (l + 1)))], [.int 3, .int 3], (SS b c), I, J0, 0, 0)
                  refine r_icmp okX7_narrow rfl (fun (h52 : ¬ (3 : Int32) = (3 : Int32)) => ?_) (fun h520 => ?_)
                  · exact absurd h52 (by decide)
                  · have h52 : (3 : Int32) = (3 : Int32) := Classical.not_not.mp h520
                    refine r_run okX7_narrow 6 (cs := [vp_in (nI p) 300]) (σ' := (65, [some (.ref 29), some (.int (nI t)), some (.int (nI kn)), some (.ref 40), some (.ref 41), some (.ref 16), some (.int (nI p)), some (.int (nI (l + 1)))], [.int (I 33 ((nI p).toNatClampNeg)), .ref 16, .ref 40], (SS b c), I, J0, 0, 0)) rfl ⟨(vin (by omega) (by decide)), trivial⟩ ?_
                    simp only [cp, e33]
                    show Rj _ _ _ _ _ _ (65, [some (.ref 29), some (.int (nI t)), some (.int (nI kn)), some (.ref 40), some (.ref 41), some (.ref 16), some (.int (nI p)), some (.int (nI (l + 1)))], [.int (nI r), .ref 16, .ref 40], (SS b c), I, J0, 0, 0)
                    refine r_aald okX7_narrow rfl rfl (vin hr (by decide)) (by first | exact Or.inl rfl | exact Or.inr rfl) (L16 r hr) ?_
                    show Rj _ _ _ _ _ _ (66, [some (.ref 29), some (.int (nI t)), some (.int (nI kn)), some (.ref 40), some (.ref 41), some (.ref 16), some (.int (nI p)), some (.int (nI (l + 1)))], [.ref (17 + 4 * r), .ref 40], (SS b c), I, J0, 0, 0)
                    refine r_getf okX7_narrow rfl rfl (SSr hr) rfl rfl ?_
                    show Rj _ _ _ _ _ _ (69, [some (.ref 29), some (.int (nI t)), some (.int (nI kn)), some (.ref 40), some (.ref 41), some (.ref 16), some (.int (nI p)), some (.int (nI (l + 1)))], [.ref (18 + 4 * r), .ref 40], (SS b c), I, J0, 0, 0)
                    refine r_callV okX7_narrow okX0_drop [.ref (18 + 4 * r)] [] 40 rfl rfl rfl kkX0_drop rfl rfl (by decide) rfl rfl rfl (by decide) ⟨Nat.le_refl _, Nat.le_refl _⟩ (Nat.le_of_ble_eq_true rfl) (a_drop γ rfl hc (SSs hr) (by omega) (cs_k (hk _ (by simp; omega)) (hR r hr).2.2.1)) (fun v1 S1 I1 J1 hp => ?_)
                    obtain ⟨rfl, rfl, rfl, J1, rfl, k1, c1⟩ := hp
                    show Rj _ _ _ _ _ _ (72, [some (.ref 29), some (.int (nI t)), some (.int (nI kn)), some (.ref 40), some (.ref 41), some (.ref 16), some (.int (nI p)), some (.int (nI (l + 1)))], [], (SS b c), I, J1, 0, 0)
                    refine r_run okX7_narrow 8 (cs := [vp_in (nI p) 300]) (σ' := (14, [some (.ref 29), some (.int (nI t)), some (.int (nI kn)), some (.ref 40), some (.ref 41), some (.ref 16), some (.int (I 35 ((nI p).toNatClampNeg))), some (.int ((nI (l + 1)) + (-1)))], [], (SS b c), I, J1, 0, 0)) rfl ⟨(vin (by omega) (by decide)), trivial⟩ ?_
                    simp only [cp, e35, pk_m1]
                    show Rj _ _ _ _ _ _ (14, [some (.ref 29), some (.int (nI t)), some (.int (nI kn)), some (.ref 40), some (.ref 41), some (.ref 16), some (.int (bsI (lsT I (nI t) p))), some (.int (nI l))], [], (SS b c), I, J1, 0, 0)
                    refine ih p hp l (fun xx => f xx && !((seesB I r) xx)) J1 (by omega) (by omega) (by omega) (kJ_t hk (kJ_m (by decide) k1)) c1 (fun x hx => ?_)
                    have hab : allB I p x = !seesB I r x := by unfold allB; rw [ekd, if_neg (by decide), if_pos (by decide), er, nv_nI (by omega)]
                    rw [← hF x hx, alN_some he, hab, decide_eq_true hpk]
                    simp [Bool.and_assoc]
                · have h38 : (3 : Int32) = (2 : Int32) := Classical.not_not.mp h380
                  exact absurd h38 (by decide)
        · obtain ⟨d, hd, ed⟩ := h2 (by rw [ekd]; rfl)
          have e33 : I 33 p = nI d := q4.trans (by unfold mes; rw [ekd, if_neg (by decide)]; exact ed)
          have e30 : I 30 p = 1 := q1.trans (by decide)
          refine r_run okX7_narrow 1 (cs := []) (σ' := (16, [some (.ref 29), some (.int (nI t)), some (.int (nI kn)), some (.ref 40), some (.ref 41), some (.ref 16), some (.int (nI p)), some (.int (nI (l + 1)))], [.int (nI p)], (SS b c), I, J0, 0, 0)) rfl trivial ?_
          refine r_ifc okX7_narrow rfl (fun (h16 : (nI p) < (0 : Int32)) => ?_) (fun (h16 : ¬ (nI p) < (0 : Int32)) => ?_)
          · exact absurd h16 (bs_some (by omega))
          · refine r_run okX7_narrow 1 (cs := []) (σ' := (21, [some (.ref 29), some (.int (nI t)), some (.int (nI kn)), some (.ref 40), some (.ref 41), some (.ref 16), some (.int (nI p)), some (.int (nI (l + 1)))], [.int (nI (l + 1))], (SS b c), I, J0, 0, 0)) rfl trivial ?_
            refine r_ifc okX7_narrow rfl (fun (h21 : (nI (l + 1)) ≤ (0 : Int32)) => ?_) (fun (h21 : ¬ (nI (l + 1)) ≤ (0 : Int32)) => ?_)
            · exact absurd h21 (nI_nle (by omega) (by omega))
            · refine r_run okX7_narrow 2 (cs := []) (σ' := (27, [some (.ref 29), some (.int (nI t)), some (.int (nI kn)), some (.ref 40), some (.ref 41), some (.ref 16), some (.int (nI p)), some (.int (nI (l + 1)))], [.int (nI kn), .int (nI p)], (SS b c), I, J0, 0, 0)) rfl trivial ?_
              refine r_icmp okX7_narrow rfl (fun (h27 : (nI kn) ≤ (nI p)) => ?_) (fun (h27 : ¬ (nI kn) ≤ (nI p)) => ?_)
              · exact absurd h27 (nI_ge hpk (by omega))
              · refine r_run okX7_narrow 5 (cs := [vp_in (nI p) 300]) (σ' := (38, [some (.ref 29), some (.int (nI t)), some (.int (nI kn)), some (.ref 40), some (.ref 41), some (.ref 16), some (.int (nI p)), some (.int (nI (l + 1)))], [.int 2, .int (I 30 ((nI p).toNatClampNeg))], (SS b c), I, J0, 0, 0)) rfl ⟨(vin (by omega) (by decide)), trivial⟩ ?_
                simp only [cp, e30]
                show Rj _ _ _ _ _ _ (38, [some (.ref 29), some (.int (nI t)), some (.int (nI kn)), some (.ref 40), some (.ref 41), some (.ref 16), some (.int (nI p)), some (.int (nI (l + 1)))], [.int 2, .int 1], (SS b c), I, J0, 0, 0)
                refine r_icmp okX7_narrow rfl (fun (h38 : ¬ (1 : Int32) = (2 : Int32)) => ?_) (fun h380 => ?_)
                · refine r_run okX7_narrow 5 (cs := [vp_in (nI p) 300]) (σ' := (52, [some (.ref 29), some (.int (nI t)), some (.int (nI kn)), some (.ref 40), some (.ref 41), some (.ref 16), some (.int (nI p)), some (.int (nI (l + 1)))], [.int 3, .int (I 30 ((nI p).toNatClampNeg))], (SS b c), I, J0, 0, 0)) rfl ⟨(vin (by omega) (by decide)), trivial⟩ ?_
                  simp only [cp, e30]
                  show Rj _ _ _ _ _ _ (52, [some (.ref 29), some (.int (nI t)), some (.int (nI kn)), some (.ref 40), some (.ref 41), some (.ref 16), some (.int (nI p)), some (.int (nI (l + 1)))], [.int 3, .int 1], (SS b c), I, J0, 0, 0)
                  refine r_icmp okX7_narrow rfl (fun (h52 : ¬ (1 : Int32) = (3 : Int32)) => ?_) (fun h520 => ?_)
                  · refine r_run okX7_narrow 9 (cs := [vp_in (nI p) 300, vp_in (nI p) 300]) (σ' := (91, [some (.ref 29), some (.int (nI t)), some (.int (nI kn)), some (.ref 40), some (.ref 41), some (.ref 16), some (.int (nI p)), some (.int (nI (l + 1)))], [.int (I 30 ((nI p).toNatClampNeg)), .int (I 32 ((nI p).toNatClampNeg)), .ref 41], (SS b c), I, J0, 0, 0)) rfl ⟨(vin (by omega) (by decide)), (vin (by omega) (by decide)), trivial⟩ ?_
                    simp only [cp, e32, e30]
                    show Rj _ _ _ _ _ _ (91, [some (.ref 29), some (.int (nI t)), some (.int (nI kn)), some (.ref 40), some (.ref 41), some (.ref 16), some (.int (nI p)), some (.int (nI (l + 1)))], [.int 1, .int (nI y), .ref 41], (SS b c), I, J0, 0, 0)
                    refine r_ifc okX7_narrow rfl (fun (h91 : ¬ (1 : Int32) = (0 : Int32)) => ?_) (fun h910 => ?_)
                    · refine r_run okX7_narrow 4 (cs := [vp_in (nI p) 300]) (σ' := (117, [some (.ref 29), some (.int (nI t)), some (.int (nI kn)), some (.ref 40), some (.ref 41), some (.ref 16), some (.int (nI p)), some (.int (nI (l + 1)))], [.int (I 33 ((nI p).toNatClampNeg)), .int (nI y), .ref 41], (SS b c), I, J0, 0, 0)) rfl ⟨(vin (by omega) (by decide)), trivial⟩ ?_
                      simp only [cp, e33]
                      show Rj _ _ _ _ _ _ (117, [some (.ref 29), some (.int (nI t)), some (.int (nI kn)), some (.ref 40), some (.ref 41), some (.ref 16), some (.int (nI p)), some (.int (nI (l + 1)))], [.int (nI d), .int (nI y), .ref 41], (SS b c), I, J0, 0, 0)
                      refine r_callV okX7_narrow okX0_circle [.int (nI y), .int (nI d)] [] 41 rfl rfl rfl kkX0_circle rfl rfl (by decide) rfl rfl rfl (by decide) ⟨Nat.le_refl _, Nat.le_refl _⟩ (Nat.le_of_ble_eq_true rfl) (a_circle γ rfl (x := y) (r := d) hy (by omega) rfl rfl) (fun v1 S1 I1 J1 hp => ?_)
                      obtain ⟨rfl, rfl, rfl, J1, rfl, k1, c1⟩ := hp
                      show Rj _ _ _ _ _ _ (120, [some (.ref 29), some (.int (nI t)), some (.int (nI kn)), some (.ref 40), some (.ref 41), some (.ref 16), some (.int (nI p)), some (.int (nI (l + 1)))], [], (SS b c), I, J1, 0, 0)
                      refine r_run okX7_narrow 2 (cs := []) (σ' := (123, [some (.ref 29), some (.int (nI t)), some (.int (nI kn)), some (.ref 40), some (.ref 41), some (.ref 16), some (.int (nI p)), some (.int (nI (l + 1)))], [.ref 41, .ref 40], (SS b c), I, J1, 0, 0)) rfl trivial ?_
                      refine r_callV okX7_narrow okX0_keep [.ref 41] [] 40 rfl rfl rfl kkX0_keep rfl rfl (by decide) rfl rfl rfl (by decide) ⟨Nat.le_refl _, Nat.le_refl _⟩ (Nat.le_of_ble_eq_true rfl) (a_keep γ rfl (cs_k (k1 40 (by decide)) hc) rfl (by decide) c1) (fun v1 S1 I1 J1 hp => ?_)
                      obtain ⟨rfl, rfl, rfl, J2, rfl, k2, c2⟩ := hp
                      show Rj _ _ _ _ _ _ (126, [some (.ref 29), some (.int (nI t)), some (.int (nI kn)), some (.ref 40), some (.ref 41), some (.ref 16), some (.int (nI p)), some (.int (nI (l + 1)))], [], (SS b c), I, J2, 0, 0)
                      refine r_run okX7_narrow 7 (cs := [vp_in (nI p) 300]) (σ' := (14, [some (.ref 29), some (.int (nI t)), some (.int (nI kn)), some (.ref 40), some (.ref 41), some (.ref 16), some (.int (I 35 ((nI p).toNatClampNeg))), some (.int ((nI (l + 1)) + (-1)))], [], (SS b c), I, J2, 0, 0)) rfl ⟨(vin (by omega) (by decide)), trivial⟩ ?_
                      simp only [cp, e35, pk_m1]
                      show Rj _ _ _ _ _ _ (14, [some (.ref 29), some (.int (nI t)), some (.int (nI kn)), some (.ref 40), some (.ref 41), some (.ref 16), some (.int (bsI (lsT I (nI t) p))), some (.int (nI l))], [], (SS b c), I, J2, 0, 0)
                      refine ih p hp l (fun xx => f xx && (fun yy => decide (farN yy y ≤ d)) xx) J2 (by omega) (by omega) (by omega) (kJ_t hk (kJ_t (kJ_m (by decide) k1) (kJ_m (by decide) k2))) c2 (fun x hx => ?_)
                      have hab : allB I p x = decide (farN x y ≤ d) := by unfold allB; rw [ekd, if_neg (by decide), if_neg (by decide), decide_eq_false (by decide), Bool.false_or, ey, nv_nI (by omega), ed, nv_nI (by omega)]
                      rw [← hF x hx, alN_some he, hab, decide_eq_true hpk]
                      simp [Bool.and_assoc]
                    · have h91 : (1 : Int32) = (0 : Int32) := Classical.not_not.mp h910
                      exact absurd h91 (by decide)
                  · have h52 : (1 : Int32) = (3 : Int32) := Classical.not_not.mp h520
                    exact absurd h52 (by decide)
                · have h38 : (1 : Int32) = (2 : Int32) := Classical.not_not.mp h380
                  exact absurd h38 (by decide)
        · have e30 : I 30 p = 2 := q1.trans (by decide)
          refine r_run okX7_narrow 1 (cs := []) (σ' := (16, [some (.ref 29), some (.int (nI t)), some (.int (nI kn)), some (.ref 40), some (.ref 41), some (.ref 16), some (.int (nI p)), some (.int (nI (l + 1)))], [.int (nI p)], (SS b c), I, J0, 0, 0)) rfl trivial ?_
          refine r_ifc okX7_narrow rfl (fun (h16 : (nI p) < (0 : Int32)) => ?_) (fun (h16 : ¬ (nI p) < (0 : Int32)) => ?_)
          · exact absurd h16 (bs_some (by omega))
          · refine r_run okX7_narrow 1 (cs := []) (σ' := (21, [some (.ref 29), some (.int (nI t)), some (.int (nI kn)), some (.ref 40), some (.ref 41), some (.ref 16), some (.int (nI p)), some (.int (nI (l + 1)))], [.int (nI (l + 1))], (SS b c), I, J0, 0, 0)) rfl trivial ?_
            refine r_ifc okX7_narrow rfl (fun (h21 : (nI (l + 1)) ≤ (0 : Int32)) => ?_) (fun (h21 : ¬ (nI (l + 1)) ≤ (0 : Int32)) => ?_)
            · exact absurd h21 (nI_nle (by omega) (by omega))
            · refine r_run okX7_narrow 2 (cs := []) (σ' := (27, [some (.ref 29), some (.int (nI t)), some (.int (nI kn)), some (.ref 40), some (.ref 41), some (.ref 16), some (.int (nI p)), some (.int (nI (l + 1)))], [.int (nI kn), .int (nI p)], (SS b c), I, J0, 0, 0)) rfl trivial ?_
              refine r_icmp okX7_narrow rfl (fun (h27 : (nI kn) ≤ (nI p)) => ?_) (fun (h27 : ¬ (nI kn) ≤ (nI p)) => ?_)
              · exact absurd h27 (nI_ge hpk (by omega))
              · refine r_run okX7_narrow 5 (cs := [vp_in (nI p) 300]) (σ' := (38, [some (.ref 29), some (.int (nI t)), some (.int (nI kn)), some (.ref 40), some (.ref 41), some (.ref 16), some (.int (nI p)), some (.int (nI (l + 1)))], [.int 2, .int (I 30 ((nI p).toNatClampNeg))], (SS b c), I, J0, 0, 0)) rfl ⟨(vin (by omega) (by decide)), trivial⟩ ?_
                simp only [cp, e30]
                show Rj _ _ _ _ _ _ (38, [some (.ref 29), some (.int (nI t)), some (.int (nI kn)), some (.ref 40), some (.ref 41), some (.ref 16), some (.int (nI p)), some (.int (nI (l + 1)))], [.int 2, .int 2], (SS b c), I, J0, 0, 0)
                refine r_icmp okX7_narrow rfl (fun (h38 : ¬ (2 : Int32) = (2 : Int32)) => ?_) (fun h380 => ?_)
                · exact absurd h38 (by decide)
                · have h38 : (2 : Int32) = (2 : Int32) := Classical.not_not.mp h380
                  refine r_run okX7_narrow 8 (cs := [vp_in (nI p) 300]) (σ' := (14, [some (.ref 29), some (.int (nI t)), some (.int (nI kn)), some (.ref 40), some (.ref 41), some (.ref 16), some (.int (I 35 ((nI p).toNatClampNeg))), some (.int ((nI (l + 1)) + (-1)))], [], (SS b c), I, J0, 0, 0)) rfl ⟨(vin (by omega) (by decide)), trivial⟩ ?_
                  simp only [cp, e35, pk_m1]
                  show Rj _ _ _ _ _ _ (14, [some (.ref 29), some (.int (nI t)), some (.int (nI kn)), some (.ref 40), some (.ref 41), some (.ref 16), some (.int (bsI (lsT I (nI t) p))), some (.int (nI l))], [], (SS b c), I, J0, 0, 0)
                  refine ih p hp l f J0 (by omega) (by omega) (by omega) hk hc (fun x hx => ?_)
                  have hab : allB I p x = true := by unfold allB; rw [ekd, if_neg (by decide), if_neg (by decide), decide_eq_true (by decide)]; rfl
                  rw [← hF x hx, alN_some he, hab, decide_eq_true hpk]
                  simp [Bool.and_assoc]
      · refine r_run okX7_narrow 1 (cs := []) (σ' := (16, [some (.ref 29), some (.int (nI t)), some (.int (nI kn)), some (.ref 40), some (.ref 41), some (.ref 16), some (.int (nI p)), some (.int (nI (l + 1)))], [.int (nI p)], (SS b c), I, J0, 0, 0)) rfl trivial ?_
        refine r_ifc okX7_narrow rfl (fun (h16 : (nI p) < (0 : Int32)) => ?_) (fun (h16 : ¬ (nI p) < (0 : Int32)) => ?_)
        · exact absurd h16 (bs_some (by omega))
        · refine r_run okX7_narrow 1 (cs := []) (σ' := (21, [some (.ref 29), some (.int (nI t)), some (.int (nI kn)), some (.ref 40), some (.ref 41), some (.ref 16), some (.int (nI p)), some (.int (nI (l + 1)))], [.int (nI (l + 1))], (SS b c), I, J0, 0, 0)) rfl trivial ?_
          refine r_ifc okX7_narrow rfl (fun (h21 : (nI (l + 1)) ≤ (0 : Int32)) => ?_) (fun (h21 : ¬ (nI (l + 1)) ≤ (0 : Int32)) => ?_)
          · exact absurd h21 (nI_nle (by omega) (by omega))
          · refine r_run okX7_narrow 2 (cs := []) (σ' := (27, [some (.ref 29), some (.int (nI t)), some (.int (nI kn)), some (.ref 40), some (.ref 41), some (.ref 16), some (.int (nI p)), some (.int (nI (l + 1)))], [.int (nI kn), .int (nI p)], (SS b c), I, J0, 0, 0)) rfl trivial ?_
            refine r_icmp okX7_narrow rfl (fun (h27 : (nI kn) ≤ (nI p)) => ?_) (fun (h27 : ¬ (nI kn) ≤ (nI p)) => ?_)
            · refine r_run okX7_narrow 7 (cs := [vp_in (nI p) 300]) (σ' := (14, [some (.ref 29), some (.int (nI t)), some (.int (nI kn)), some (.ref 40), some (.ref 41), some (.ref 16), some (.int (I 35 ((nI p).toNatClampNeg))), some (.int ((nI (l + 1)) + (-1)))], [], (SS b c), I, J0, 0, 0)) rfl ⟨(vin (by omega) (by decide)), trivial⟩ ?_
              simp only [cp, e35, pk_m1]
              show Rj _ _ _ _ _ _ (14, [some (.ref 29), some (.int (nI t)), some (.int (nI kn)), some (.ref 40), some (.ref 41), some (.ref 16), some (.int (bsI (lsT I (nI t) p))), some (.int (nI l))], [], (SS b c), I, J0, 0, 0)
              refine ih p hp l f J0 (by omega) (by omega) (by omega) hk hc (fun x hx => ?_)
              rw [← hF x hx, alN_some he, decide_eq_false hpk]
              simp
            · exact absurd (nI_le (by omega) (by omega)) h27
theorem o_narrow (γ : GE) {b c : Bool} {I : AI} {J : AJ} (hO : OTel I) (hT : MTel I) (hM : MRad I) (hR : ORad I J) {t kn : Nat} (ht : t < 720) (hkn : kn < 301) {f : Nat → Bool} (hc : cs J 40 f) : Ct γ mX7_narrow 2 0 0 [.ref 29, .int (nI t), .int (nI kn), .ref 40, .ref 41, .ref 16] (SS b c) I J (fun rt S' I' J' => none = rt ∧ (SS b c) = S' ∧ I = I' ∧ kJ [40, 41] J J' ∧ cs J' 40 (fun x => f x && alN I kn t (nv (I 100 13)) x)) := by
  obtain ⟨n, hn, en⟩ := hT.1
  have e7 := hO.1.trans en
  have ct : (nI t).toNatClampNeg = t := nI_clamp (by omega)
  have e36 := hO.2.2.1 t ht
  refine ct_of okX7_narrow (L := [some (.ref 29), some (.int (nI t)), some (.int (nI kn)), some (.ref 40), some (.ref 41), some (.ref 16), none, none]) (Nat.le_of_ble_eq_true rfl) rfl ?_
  refine r_run okX7_narrow 8 (cs := [vp_in (nI t) 720]) (σ' := (14, [some (.ref 29), some (.int (nI t)), some (.int (nI kn)), some (.ref 40), some (.ref 41), some (.ref 16), some (.int (I 36 ((nI t).toNatClampNeg))), some (.int (I 29 7))], [], (SS b c), I, J, 0, 0)) rfl ⟨(vin ht (by decide)), trivial⟩ ?_
  simp only [ct, e36, e7]
  show Rj _ _ _ _ _ _ (14, [some (.ref 29), some (.int (nI t)), some (.int (nI kn)), some (.ref 40), some (.ref 41), some (.ref 16), some (.int (bsI (lsT I (nI t) (nv (I 100 13))))), some (.int (nI n))], [], (SS b c), I, J, 0, 0)
  rw [en, nv_nI (by omega)]
  exact lp_nar γ hO hT hM hR hn (by rw [en, nv_nI (by omega)]) _ hkn n n f J (Nat.le_refl _) hn (Nat.le_refl _) kJ_r hc (fun x _ => rfl)
def rcB (I : AI) (s : Int32) (f : Nat → Bool) (t i : Nat) : Bool := decide (I 112 i = nI t) && (decide (srt (I 110 i) = s) && f (nv (I 113 i)))
theorem rc_none {I : AI} {s : Int32} {f : Nat → Bool} {t : Nat} : ∀ {m : Nat}, lsT I (nI t) m = none → cnt (rcB I s f t) m = 0
  | 0, _ => rfl
  | m + 1, h => by
    unfold lsT at h
    split at h
    · cases h
    · rename_i e
      unfold cnt
      rw [rc_none h, show rcB I s f t m = false by unfold rcB; rw [decide_eq_false e]; rfl]; rfl
theorem rc_some {I : AI} {s : Int32} {f : Nat → Bool} {t : Nat} : ∀ {m p : Nat}, lsT I (nI t) m = some p → cnt (rcB I s f t) m = cnt (rcB I s f t) p + (if rcB I s f t p then 1 else 0)
  | 0, _, h => by cases h
  | m + 1, p, h => by
    unfold lsT at h
    split at h
    · cases h; rfl
    · rename_i e
      show cnt (rcB I s f t) m + _ = _
      rw [rc_some h, show rcB I s f t m = false by unfold rcB; rw [decide_eq_false e]; rfl]; rfl
def sC (I : AI) (s : Int32) (f : Nat → Bool) (n : Nat) : Nat → Nat → Nat
  | 0, _ => 0
  | j + 1, t => cnt (rcB I s f t) n + sC I s f n j (t + 1)
theorem mx9 : ∀ w, w < 720 → (if (0 : Int32) < nI w - 10 + 1 then nI w - 10 + 1 else 0) = nI (w - 9) := by decide +kernel
theorem lp_rc1 (γ : GE) {b c : Bool} {I : AI} {J : AJ} {Post : PT} (hO : OTel I) (hT : MTel I) {n : Nat} (hn : n < 301) (en : nv (I 100 13) = n) {a : Nat} (ha : (SS b c)[a]? = some csh) {f : Nat → Bool} (hc : cs J a f) (s : Int32) (w t B : Nat) (K : Rj γ mX7_recentIn 1 0 0 Post (89, [some (.ref 29), some (.ref a), some (.int s), some (.int (nI w)), some (.int (nI B)), some (.int (nI t)), none, none], [], (SS b c), I, J, 0, 0)) : ∀ (m l A : Nat), m ≤ l → l < 301 → m ≤ n → A + cnt (rcB I s f t) m = B → Rj γ mX7_recentIn 1 0 0 Post (36, [some (.ref 29), some (.ref a), some (.int s), some (.int (nI w)), some (.int (nI A)), some (.int (nI t)), some (.int (bsI (lsT I (nI t) m))), some (.int (nI l))], [], (SS b c), I, J, 0, 0) := by
  intro m
  induction m using Nat.strongRecOn with
  | ind m ih =>
    intro l A hl hl3 hmn hA
    cases he : lsT I (nI t) m with
    | none =>
      rw [rc_none he, Nat.add_zero] at hA
      subst hA
      refine r_run okX7_recentIn 1 (cs := []) (σ' := (38, [some (.ref 29), some (.ref a), some (.int s), some (.int (nI w)), some (.int (nI A)), some (.int (nI t)), some (.int (bsI none)), some (.int (nI l))], [.int (bsI none)], (SS b c), I, J, 0, 0)) rfl trivial ?_
      refine r_ifc okX7_recentIn rfl (fun (h38 : (bsI none) < (0 : Int32)) => ?_) (fun (h38 : ¬ (bsI none) < (0 : Int32)) => ?_)
      · refine r_weak (L' := [some (.ref 29), some (.ref a), some (.int s), some (.int (nI w)), some (.int (nI A)), some (.int (nI t)), none, none]) ⟨rfl, rfl, rfl, rfl, rfl, rfl, trivial⟩ ?_
        exact K
      · exact absurd bs_none h38
    | some p =>
      rw [rc_some he, ← Nat.add_assoc] at hA
      obtain ⟨hp, ep⟩ := lsT_lt he
      obtain ⟨l, rfl⟩ : ∃ q, l = q + 1 := ⟨l - 1, by omega⟩
      have cp : (nI p).toNatClampNeg = p := nI_clamp (by omega)
      obtain ⟨e30, -, q3, -, -, e35⟩ := hO.2.1 p (by omega)
      rw [ep] at e35
      obtain ⟨y, hy, ey⟩ := (hT.2 p (by omega)).2.2.2.1
      have e32 : I 32 p = nI y := q3.trans ey
      refine r_run okX7_recentIn 1 (cs := []) (σ' := (38, [some (.ref 29), some (.ref a), some (.int s), some (.int (nI w)), some (.int (nI A)), some (.int (nI t)), some (.int (nI p)), some (.int (nI (l + 1)))], [.int (nI p)], (SS b c), I, J, 0, 0)) rfl trivial ?_
      refine r_ifc okX7_recentIn rfl (fun (h38 : (nI p) < (0 : Int32)) => ?_) (fun (h38 : ¬ (nI p) < (0 : Int32)) => ?_)
      · exact absurd h38 (bs_some (by omega))
      · refine r_run okX7_recentIn 1 (cs := []) (σ' := (43, [some (.ref 29), some (.ref a), some (.int s), some (.int (nI w)), some (.int (nI A)), some (.int (nI t)), some (.int (nI p)), some (.int (nI (l + 1)))], [.int (nI (l + 1))], (SS b c), I, J, 0, 0)) rfl trivial ?_
        refine r_ifc okX7_recentIn rfl (fun (h43 : (nI (l + 1)) ≤ (0 : Int32)) => ?_) (fun (h43 : ¬ (nI (l + 1)) ≤ (0 : Int32)) => ?_)
        · exact absurd h43 (nI_nle (by omega) (by omega))
        · refine r_run okX7_recentIn 5 (cs := [vp_in (nI p) 300]) (σ' := (54, [some (.ref 29), some (.ref a), some (.int s), some (.int (nI w)), some (.int (nI A)), some (.int (nI t)), some (.int (nI p)), some (.int (nI (l + 1)))], [.int s, .int (I 30 ((nI p).toNatClampNeg))], (SS b c), I, J, 0, 0)) rfl ⟨(vin (by omega) (by decide)), trivial⟩ ?_
          simp only [cp, e30]
          show Rj _ _ _ _ _ _ (54, [some (.ref 29), some (.ref a), some (.int s), some (.int (nI w)), some (.int (nI A)), some (.int (nI t)), some (.int (nI p)), some (.int (nI (l + 1)))], [.int s, .int (srt (I 110 p))], (SS b c), I, J, 0, 0)
          refine r_icmp okX7_recentIn rfl (fun (h54 : ¬ (srt (I 110 p)) = s) => ?_) (fun h540 => ?_)
          · refine r_run okX7_recentIn 7 (cs := [vp_in (nI p) 300]) (σ' := (36, [some (.ref 29), some (.ref a), some (.int s), some (.int (nI w)), some (.int (nI A)), some (.int (nI t)), some (.int (I 35 ((nI p).toNatClampNeg))), some (.int ((nI (l + 1)) + (-1)))], [], (SS b c), I, J, 0, 0)) rfl ⟨(vin (by omega) (by decide)), trivial⟩ ?_
            simp only [cp, e35, pk_m1]
            show Rj _ _ _ _ _ _ (36, [some (.ref 29), some (.ref a), some (.int s), some (.int (nI w)), some (.int (nI A)), some (.int (nI t)), some (.int (bsI (lsT I (nI t) p))), some (.int (nI l))], [], (SS b c), I, J, 0, 0)
            have hb : rcB I s f t p = false := by unfold rcB; rw [decide_eq_false h54]; simp
            rw [hb] at hA
            simp only [if_true, if_false, Bool.false_eq_true] at hA
            exact ih p hp l (A) (by omega) (by omega) (by omega) (by omega)
          · have h54 : (srt (I 110 p)) = s := Classical.not_not.mp h540
            refine r_run okX7_recentIn 5 (cs := [vp_in (nI p) 300]) (σ' := (65, [some (.ref 29), some (.ref a), some (.int s), some (.int (nI w)), some (.int (nI A)), some (.int (nI t)), some (.int (nI p)), some (.int (nI (l + 1)))], [.int (I 32 ((nI p).toNatClampNeg)), .ref a], (SS b c), I, J, 0, 0)) rfl ⟨(vin (by omega) (by decide)), trivial⟩ ?_
            simp only [cp, e32]
            show Rj _ _ _ _ _ _ (65, [some (.ref 29), some (.ref a), some (.int s), some (.int (nI w)), some (.int (nI A)), some (.int (nI t)), some (.int (nI p)), some (.int (nI (l + 1)))], [.int (nI y), .ref a], (SS b c), I, J, 0, 0)
            refine r_callV okX7_recentIn okX0_has [.int (nI y)] [] a rfl rfl rfl kkX0_has rfl rfl (by decide) ha rfl rfl (by decide) ⟨Nat.le_refl _, Nat.le_refl _⟩ (Nat.le_of_ble_eq_true rfl) (a_has γ ha hc (x := y) hy rfl) (fun v1 S1 I1 J1 hp => ?_)
            obtain ⟨rfl, rfl, rfl, rfl⟩ := hp
            show Rj _ _ _ _ _ _ (68, [some (.ref 29), some (.ref a), some (.int s), some (.int (nI w)), some (.int (nI A)), some (.int (nI t)), some (.int (nI p)), some (.int (nI (l + 1)))], [.int (bi (f y))], (SS b c), I, J, 0, 0)
            refine r_ifc okX7_recentIn rfl (fun (h68 : (bi (f y)) = (0 : Int32)) => ?_) (fun (h68 : ¬ (bi (f y)) = (0 : Int32)) => ?_)
            · refine r_run okX7_recentIn 7 (cs := [vp_in (nI p) 300]) (σ' := (36, [some (.ref 29), some (.ref a), some (.int s), some (.int (nI w)), some (.int (nI A)), some (.int (nI t)), some (.int (I 35 ((nI p).toNatClampNeg))), some (.int ((nI (l + 1)) + (-1)))], [], (SS b c), I, J, 0, 0)) rfl ⟨(vin (by omega) (by decide)), trivial⟩ ?_
              simp only [cp, e35, pk_m1]
              show Rj _ _ _ _ _ _ (36, [some (.ref 29), some (.ref a), some (.int s), some (.int (nI w)), some (.int (nI A)), some (.int (nI t)), some (.int (bsI (lsT I (nI t) p))), some (.int (nI l))], [], (SS b c), I, J, 0, 0)
              have hb : rcB I s f t p = false := by unfold rcB; rw [ey, nv_nI (by omega), bi_0.mp h68]; simp
              rw [hb] at hA
              simp only [if_true, if_false, Bool.false_eq_true] at hA
              exact ih p hp l (A) (by omega) (by omega) (by omega) (by omega)
            · refine r_run okX7_recentIn 8 (cs := [vp_in (nI p) 300]) (σ' := (36, [some (.ref 29), some (.ref a), some (.int s), some (.int (nI w)), some (.int ((nI A) + 1)), some (.int (nI t)), some (.int (I 35 ((nI p).toNatClampNeg))), some (.int ((nI (l + 1)) + (-1)))], [], (SS b c), I, J, 0, 0)) rfl ⟨(vin (by omega) (by decide)), trivial⟩ ?_
              simp only [cp, e35, pk_m1, nI_eq1]
              show Rj _ _ _ _ _ _ (36, [some (.ref 29), some (.ref a), some (.int s), some (.int (nI w)), some (.int (nI (A + 1))), some (.int (nI t)), some (.int (bsI (lsT I (nI t) p))), some (.int (nI l))], [], (SS b c), I, J, 0, 0)
              have hb : rcB I s f t p = true := by unfold rcB; rw [ey, nv_nI (by omega), bi_n0.mp h68, decide_eq_true h54, decide_eq_true ep]; rfl
              rw [hb] at hA
              simp only [if_true, if_false, Bool.false_eq_true] at hA
              exact ih p hp l (A + 1) (by omega) (by omega) (by omega) (by omega)
theorem lp_rc2 (γ : GE) {b c : Bool} {I : AI} {J : AJ} (hO : OTel I) (hT : MTel I) {n : Nat} (hn : n < 301) (en : nv (I 100 13) = n) {a : Nat} (ha : (SS b c)[a]? = some csh) {f : Nat → Bool} (hc : cs J a f) (s : Int32) {w : Nat} (hw : w < 720) : ∀ (j t A : Nat), t + j = w + 1 → Rj γ mX7_recentIn 1 0 0 (rI (nI (A + sC I s f n j t)) (SS b c) I J) (15, [some (.ref 29), some (.ref a), some (.int s), some (.int (nI w)), some (.int (nI A)), some (.int (nI t)), none, none], [], (SS b c), I, J, 0, 0) := by
  intro j
  induction j with
  | zero =>
    intro t A hj
    refine r_run okX7_recentIn 2 (cs := []) (σ' := (18, [some (.ref 29), some (.ref a), some (.int s), some (.int (nI w)), some (.int (nI A)), some (.int (nI t)), none, none], [.int (nI w), .int (nI t)], (SS b c), I, J, 0, 0)) rfl trivial ?_
    refine r_icmp okX7_recentIn rfl (fun (h18 : (nI w) < (nI t)) => ?_) (fun (h18 : ¬ (nI w) < (nI t)) => ?_)
    · refine r_run okX7_recentIn 1 (cs := []) (σ' := (97, [some (.ref 29), some (.ref a), some (.int s), some (.int (nI w)), some (.int (nI A)), some (.int (nI t)), none, none], [.int (nI A)], (SS b c), I, J, 0, 0)) rfl trivial ?_
      refine r_iret okX7_recentIn rfl rfl rfl (Nat.le_refl _) (Nat.le_refl _) ?_
      exact ⟨rfl, rfl, rfl, rfl⟩
    · exact absurd (nI_lt (by omega) (by omega)) h18
  | succ j ih =>
    intro t A hj
    have ct : (nI t).toNatClampNeg = t := nI_clamp (by omega)
    have e36 := hO.2.2.1 t (by omega)
    have e7 := hO.1
    have en7 : I 100 13 = nI n := by rw [← en]; exact (rg_nv hT.1 (by decide)).2
    refine r_run okX7_recentIn 2 (cs := []) (σ' := (18, [some (.ref 29), some (.ref a), some (.int s), some (.int (nI w)), some (.int (nI A)), some (.int (nI t)), none, none], [.int (nI w), .int (nI t)], (SS b c), I, J, 0, 0)) rfl trivial ?_
    refine r_icmp okX7_recentIn rfl (fun (h18 : (nI w) < (nI t)) => ?_) (fun (h18 : ¬ (nI w) < (nI t)) => ?_)
    · exact absurd h18 (nI_nlt (by omega) (by omega))
    · refine r_run okX7_recentIn 8 (cs := [vp_in (nI t) 720]) (σ' := (36, [some (.ref 29), some (.ref a), some (.int s), some (.int (nI w)), some (.int (nI A)), some (.int (nI t)), some (.int (I 36 ((nI t).toNatClampNeg))), some (.int (I 29 7))], [], (SS b c), I, J, 0, 0)) rfl ⟨(vin (by omega) (by decide)), trivial⟩ ?_
      simp only [ct, e36, e7]
      show Rj _ _ _ _ _ _ (36, [some (.ref 29), some (.ref a), some (.int s), some (.int (nI w)), some (.int (nI A)), some (.int (nI t)), some (.int (bsI (lsT I (nI t) (nv (I 100 13))))), some (.int (I 100 13))], [], (SS b c), I, J, 0, 0)
      rw [show I 100 13 = nI n from en7, nv_nI (by omega)]
      refine lp_rc1 γ hO hT hn en ha hc s w t (A + cnt (rcB I s f t) n) ?_ n n A (Nat.le_refl _) hn (Nat.le_refl _) rfl
      refine r_run okX7_recentIn 2 (cs := []) (σ' := (15, [some (.ref 29), some (.ref a), some (.int s), some (.int (nI w)), some (.int (nI (A + cnt (rcB I s f t) n))), some (.int ((nI t) + 1)), none, none], [], (SS b c), I, J, 0, 0)) rfl trivial ?_
      rw [nI_eq1]
      have h := ih (t + 1) (A + cnt (rcB I s f t) n) (by omega)
      rw [Nat.add_assoc A] at h
      exact h
theorem o_recentIn (γ : GE) {b c : Bool} {I : AI} {J : AJ} (hO : OTel I) (hT : MTel I) {a : Nat} (ha : (SS b c)[a]? = some csh) {f : Nat → Bool} (hc : cs J a f) (s : Int32) {w : Nat} (hw : w < 720) : Ct γ mX7_recentIn 1 0 0 [.ref 29, .ref a, .int s, .int (nI w)] (SS b c) I J (rI (nI (sC I s f (nv (I 100 13)) (w + 1 - (w - 9)) (w - 9))) (SS b c) I J) := by
  refine ct_of okX7_recentIn (L := [some (.ref 29), some (.ref a), some (.int s), some (.int (nI w)), none, none, none, none]) (Nat.le_of_ble_eq_true rfl) rfl ?_
  refine r_run okX7_recentIn 8 (cs := []) (σ' := (10, [some (.ref 29), some (.ref a), some (.int s), some (.int (nI w)), some (.int 0), none, none, none], [.int (((nI w) - 10) + 1), .int 0], (SS b c), I, J, 0, 0)) rfl trivial ?_
  refine r_mmax okX7_recentIn rfl rfl ⟨Nat.le_refl _, Nat.le_refl _⟩ (Nat.le_of_ble_eq_true rfl) ?_
  show Rj _ _ _ _ _ _ (13, [some (.ref 29), some (.ref a), some (.int s), some (.int (nI w)), some (.int 0), none, none, none], [.int (if 0 < (((nI w) - 10) + 1) then (((nI w) - 10) + 1) else 0)], (SS b c), I, J, 0, 0)
  refine r_run okX7_recentIn 1 (cs := []) (σ' := (15, [some (.ref 29), some (.ref a), some (.int s), some (.int (nI w)), some (.int 0), some (.int (if 0 < (((nI w) - 10) + 1) then (((nI w) - 10) + 1) else 0)), none, none], [], (SS b c), I, J, 0, 0)) rfl trivial ?_
  simp only [mx9 w hw]
  show Rj _ _ _ _ _ _ (15, [some (.ref 29), some (.ref a), some (.int s), some (.int (nI w)), some (.int 0), some (.int (nI (w - 9))), none, none], [], (SS b c), I, J, 0, 0)
  have h := lp_rc2 γ hO hT (rg_nv hT.1 (by decide)).1 rfl ha hc s hw (w + 1 - (w - 9)) (w - 9) 0 (by omega)
  rw [Nat.zero_add] at h
  exact h
