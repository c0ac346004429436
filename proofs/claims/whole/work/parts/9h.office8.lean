/-! ===== StormOffice: posts ===== -/
theorem allP_nat {I : AI} : ∀ n, n ≤ 8 → ∃ T, T < 256 ∧ allP I n = nI T
  | 0, _ => ⟨0, by decide, rfl⟩
  | n + 1, h => by
    obtain ⟨T, h1, h2⟩ := allP_nat (I := I) n (by omega)
    unfold allP
    split
    · exact ⟨T, h1, h2⟩
    · have q := (tb_and T h1 n (by omega)).2
      exact ⟨T ||| 2 ^ n, q.2, by rw [h2]; exact q.1⟩
theorem sub_or {s T : Nat} (hs : s < 256) (hT : T < 256) : nI s &&& (nI T ^^^ -1) = 0 ↔ s ||| T = T := by
  rw [and_not, or_nI]
  constructor
  · intro h; exact nI_inj (Nat.lt_trans (Nat.or_lt_two_pow (n := 8) hs hT) (by decide)) (by omega) h
  · intro h; rw [h]
theorem sub_pop {s T : Nat} (h : s ||| T = T) : popN s ≤ popN T := by
  refine cnt_mono (fun i hi => ?_) 8
  rw [← h, Nat.testBit_or, hi]; rfl
theorem pop_dn : ∀ T, T < 256 → 0 < T → (T &&& (T - 1)) < T ∧ popN T = popN (T &&& (T - 1)) + 1 ∧ (T &&& (T - 1)) ||| T = T := by decide +kernel
theorem pop_ex : ∀ (T : Nat), T < 256 → ∀ k, k ≤ popN T → ∃ s, s < 256 ∧ s ||| T = T ∧ popN s = k := by
  intro T
  induction T using Nat.strongRecOn with
  | _ T ih =>
    intro hT k hk
    by_cases e : k = popN T
    · exact ⟨T, hT, Nat.or_self T, e.symm⟩
    · have h0 : 0 < T := Nat.pos_of_ne_zero fun q => by
        subst q
        have : popN 0 = 0 := by decide
        omega
      obtain ⟨a1, a2, a3⟩ := pop_dn T hT h0
      obtain ⟨s, b1, b2, b3⟩ := ih _ a1 (by omega) k (by omega)
      exact ⟨s, b1, by rw [← a3, ← Nat.or_assoc, b2], b3⟩
theorem psS_none {I : AI} {k : Int32} (h : ∀ s, s < 256 → pkB I k s = false) : ∀ j s, s + j = 256 → psS I k j s none 0 0 = (none, 0, 0)
  | 0, _, _ => rfl
  | j + 1, s, e => by
    rw [psS, h s (by omega), if_neg (by decide)]; exact psS_none h j (s + 1) (by omega)
theorem psS_q {I : AI} {k : Int32} : ∀ j s q v m, (psS I k j s (some q) v m).1.isSome = true
  | 0, _, _, _, _ => rfl
  | j + 1, s, q, v, m => by
    rw [psS]
    split
    · split
      · exact psS_q j (s + 1) q v m
      · exact psS_q j (s + 1) s _ _
    · exact psS_q j (s + 1) q v m
theorem psS_x {I : AI} {k : Int32} {s0 : Nat} (hp : pkB I k s0 = true) : ∀ j s v m, s ≤ s0 → s0 < s + j → (psS I k j s none v m).1.isSome = true
  | 0, _, _, _, h1, h2 => by omega
  | j + 1, s, v, m, h1, h2 => by
    rw [psS]
    by_cases e : s = s0
    · subst e
      rw [if_pos hp]; simp only [Option.isSome_none, Bool.false_and, Bool.false_eq_true, if_false]
      exact psS_q _ _ _ _ _
    · split
      · simp only [Option.isSome_none, Bool.false_and, Bool.false_eq_true, if_false]
        exact psS_q _ _ _ _ _
      · exact psS_x hp j (s + 1) v m (by omega) (by omega)
theorem pst_no {I : AI} {k w : Int32} (h : (inB k 0 (bc32 (allP I 8)) && inB w 0 2) = false) : pstV I k w = -1 := by
  unfold pstV
  split
  · rename_i q
    rw [Bool.and_eq_true] at q
    obtain ⟨T, h1, h2⟩ := allP_nat (I := I) 8 (Nat.le_refl _)
    rw [q.2, Bool.and_true, h2, bc32_q T h1] at h
    rw [psS_none (fun s hs => ?_) 256 0 rfl]; (· rfl)
    unfold pkB
    rw [Bool.and_eq_false_iff, h2]
    by_cases e : nI s &&& (nI T ^^^ -1) = 0
    · refine Or.inr (decide_eq_false fun z => ?_)
      have := sub_pop ((sub_or hs h1).mp e)
      have hin : inB k 0 (nI (popN T)) = true := by
        rw [← z]; exact inB_t.mpr ⟨nI_pos' (by have := pop_le s; omega), nI_le this (by have := pop_le T; omega)⟩
      rw [hin] at h; cases h
    · exact Or.inl (decide_eq_false e)
  · rfl
theorem pst_yes {I : AI} {k : Int32} (h : inB k 0 (bc32 (allP I 8)) = true) : inB k 0 8 = true ∧ ∃ d, (psS I k 256 0 none 0 0).1 = some d := by
  obtain ⟨T, h1, h2⟩ := allP_nat (I := I) 8 (Nat.le_refl _)
  rw [h2, bc32_q T h1] at h
  obtain ⟨kk, hk, rfl⟩ := in_nat h rfl (by have := pop_le T; omega)
  have h8 := pop_le T
  refine ⟨inB_t.mpr ⟨nI_pos' (by omega), nI_le (b := 8) (by omega) (by decide)⟩, ?_⟩
  obtain ⟨s, b1, b2, b3⟩ := pop_ex T h1 kk hk
  have hp : pkB I (nI kk) s = true := by unfold pkB; rw [h2, decide_eq_true ((sub_or b1 h1).mpr b2), b3, decide_eq_true rfl]; rfl
  exact Option.isSome_iff_exists.mp (psS_x hp 256 0 0 0 (by omega) (by omega))
def hidN (I : AI) (x : Nat) : Nat → Bool
  | 0 => true
  | r + 1 => hidN I x r && !(seesB I r x)
theorem hid_3 {I : AI} (x : Nat) : hidN I x 3 = decide (seersV I x = 0) := by
  unfold seersV hidN hidN hidN hidN
  cases seesB I 0 x <;> cases seesB I 1 x <;> cases seesB I 2 x <;> decide
theorem lp_opst (γ : GE) {b c : Bool} {I : AI} {J : AJ} (hP : OPos I J) (hR : ORad I J) (hL : OLd I) (hM : MLand I) {k w : Int32} {Post : PT} (K : ∀ J0 : AJ, kJ [78] J J0 → cs J0 78 (fun x => hidN I x 3) → Rj γ mX11_posts 4 0 0 Post (62, [some (.ref 0), some (.int k), some (.int w), some (.int (nI 3))], [], (SS b c), I, J0, 0, 0)) : ∀ (j q : Nat) (J0 : AJ), q + j = 3 → kJ [78] J J0 → cs J0 78 (fun x => hidN I x q) → Rj γ mX11_posts 4 0 0 Post (35, [some (.ref 0), some (.int k), some (.int w), some (.int (nI q))], [], (SS b c), I, J0, 0, 0) := by
  intro j
  induction j with
  | zero =>
    intro q J0 hj hk hc
    refine r_run okX11_posts 2 (cs := []) (σ' := (37, [some (.ref 0), some (.int k), some (.int w), some (.int (nI q))], [.int 3, .int (nI q)], (SS b c), I, J0, 0, 0)) rfl trivial ?_
    refine r_icmp okX11_posts rfl (fun (h37 : (3 : Int32) ≤ (nI q)) => ?_) (fun (h37 : ¬ (3 : Int32) ≤ (nI q)) => ?_)
    · have e : q = 3 := by omega
      subst e
      exact K J0 hk hc
    · exact absurd (nI_le (a := 3) (b := q) (by omega) (by omega)) h37
  | succ j ih =>
    intro q J0 hj hk hc
    refine r_run okX11_posts 2 (cs := []) (σ' := (37, [some (.ref 0), some (.int k), some (.int w), some (.int (nI q))], [.int 3, .int (nI q)], (SS b c), I, J0, 0, 0)) rfl trivial ?_
    refine r_icmp okX11_posts rfl (fun (h37 : (3 : Int32) ≤ (nI q)) => ?_) (fun (h37 : ¬ (3 : Int32) ≤ (nI q)) => ?_)
    · exact absurd h37 (nI_ge (a := q) (b := 3) (by omega) (by decide))
    · refine r_run okX11_posts 5 (cs := []) (σ' := (49, [some (.ref 0), some (.int k), some (.int w), some (.int (nI q))], [.int (nI q), .ref 16, .ref 78], (SS b c), I, J0, 0, 0)) rfl trivial ?_
      refine r_aald okX11_posts rfl rfl (vin (by omega) (by decide)) (by first | exact Or.inl rfl | exact Or.inr rfl) (L16 q (by omega)) ?_
      show Rj _ _ _ _ _ _ (50, [some (.ref 0), some (.int k), some (.int w), some (.int (nI q))], [.ref (17 + 4 * q), .ref 78], (SS b c), I, J0, 0, 0)
      refine r_getf okX11_posts rfl rfl (SSr (by omega)) rfl rfl ?_
      show Rj _ _ _ _ _ _ (53, [some (.ref 0), some (.int k), some (.int w), some (.int (nI q))], [.ref (18 + 4 * q), .ref 78], (SS b c), I, J0, 0, 0)
      refine r_callV okX11_posts okX0_drop [.ref (18 + 4 * q)] [] 78 rfl rfl rfl kkX0_drop rfl rfl (by decide) rfl rfl rfl (by decide) ⟨Nat.le_refl _, Nat.le_refl _⟩ (Nat.le_of_ble_eq_true rfl) (a_drop γ rfl hc (SSs (by omega)) (by omega) (cs_k (hk _ (by simp; omega)) (hR q (by omega)).2.2.1)) (fun v1 S1 I1 J1 hp => ?_)
      obtain ⟨rfl, rfl, rfl, J1, rfl, k1, c1⟩ := hp
      show Rj _ _ _ _ _ _ (56, [some (.ref 0), some (.int k), some (.int w), some (.int (nI q))], [], (SS b c), I, J1, 0, 0)
      refine r_run okX11_posts 2 (cs := []) (σ' := (35, [some (.ref 0), some (.int k), some (.int w), some (.int ((nI q) + 1))], [], (SS b c), I, J1, 0, 0)) rfl trivial ?_
      rw [nI_eq1]
      exact ih (q + 1) J1 (by omega) (kJ_t hk k1) c1
theorem o_posts0 (γ : GE) {b c : Bool} {I : AI} {J : AJ} (hP : OPos I J) (hR : ORad I J) (hL : OLd I) (hM : MLand I) (k : Int32) (hf : inB k 0 (bc32 (I 65 3)) = true) : Ct γ mX11_posts 4 0 0 [.ref 0, .int k, .int 0] (SS b c) I J (fun rt S' I' J' => some (.int (pstV I k 0)) = rt ∧ (SS b c) = S' ∧ kI [65] I I' ∧ I' 65 3 = I 65 3 ∧ kJ [67, 78] J J') := by
  refine ct_of okX11_posts (L := [some (.ref 0), some (.int k), some (.int 0), none]) (Nat.le_of_ble_eq_true rfl) rfl ?_
  refine r_run okX11_posts 4 (cs := []) (σ' := (6, [some (.ref 0), some (.int k), some (.int 0), none], [.ref 65, .int 0, .int k], (SS b c), I, J, 0, 0)) rfl trivial ?_
  refine r_callV okX11_posts okX3_size [] [.int 0, .int k] 65 rfl rfl rfl kkX3_size rfl rfl (by decide) rfl rfl rfl (by decide) ⟨Nat.le_refl _, Nat.le_refl _⟩ (Nat.le_of_ble_eq_true rfl) (o_lsize γ) (fun v1 S1 I1 J1 hp => ?_)
  obtain ⟨rfl, rfl, rfl, rfl⟩ := hp
  show Rj _ _ _ _ _ _ (9, [some (.ref 0), some (.int k), some (.int 0), none], [.int (bc32 (I 65 3)), .int 0, .int k], (SS b c), I, J, 0, 0)
  refine r_callS okX11_posts okX11_within [.int k, .int 0, .int (bc32 (I 65 3))] [] rfl rfl rfl kkX11_within rfl rfl (by decide) (by decide) ⟨Nat.le_refl _, Nat.le_refl _⟩ (Nat.le_of_ble_eq_true rfl) (o_win γ k 0 (bc32 (I 65 3))) (fun v1 S1 I1 J1 hp => ?_)
  obtain ⟨rfl, rfl, rfl, rfl⟩ := hp
  show Rj _ _ _ _ _ _ (12, [some (.ref 0), some (.int k), some (.int 0), none], [.int (bi (inB k 0 (bc32 (I 65 3))))], (SS b c), I, J, 0, 0)
  refine r_ifc okX11_posts rfl (fun (h12 : (bi (inB k 0 (bc32 (I 65 3)))) = (0 : Int32)) => ?_) (fun (h12 : ¬ (bi (inB k 0 (bc32 (I 65 3)))) = (0 : Int32)) => ?_)
  · have h12s := bi_0.mp h12
    have := bi_0.mp h12
    rw [hf] at this
    cases this
  · have h12s := bi_n0.mp h12
    refine r_run okX11_posts 3 (cs := []) (σ' := (18, [some (.ref 0), some (.int k), some (.int 0), none], [.int 2, .int 0, .int 0], (SS b c), I, J, 0, 0)) rfl trivial ?_
    refine r_callS okX11_posts okX11_within [.int 0, .int 0, .int 2] [] rfl rfl rfl kkX11_within rfl rfl (by decide) (by decide) ⟨Nat.le_refl _, Nat.le_refl _⟩ (Nat.le_of_ble_eq_true rfl) (o_win γ 0 0 2) (fun v1 S1 I1 J1 hp => ?_)
    obtain ⟨rfl, rfl, rfl, rfl⟩ := hp
    show Rj _ _ _ _ _ _ (21, [some (.ref 0), some (.int k), some (.int 0), none], [.int (bi (inB 0 0 2))], (SS b c), I, J, 0, 0)
    refine r_ifc okX11_posts rfl (fun (h21 : ¬ (bi (inB 0 0 2)) = (0 : Int32)) => ?_) (fun h210 => ?_)
    · have h21s := bi_n0.mp h21
      refine r_run okX11_posts 2 (cs := []) (σ' := (30, [some (.ref 0), some (.int k), some (.int 0), none], [.ref 78], (SS b c), I, J, 0, 0)) rfl trivial ?_
      refine r_callV okX11_posts okX0_fill [] [] 78 rfl rfl rfl kkX0_fill rfl rfl (by decide) rfl rfl rfl (by decide) ⟨Nat.le_refl _, Nat.le_refl _⟩ (Nat.le_of_ble_eq_true rfl) (a_fill γ rfl) (fun v1 S1 I1 J1 hp => ?_)
      obtain ⟨rfl, rfl, rfl, J1, rfl, k1, c1⟩ := hp
      show Rj _ _ _ _ _ _ (33, [some (.ref 0), some (.int k), some (.int 0), none], [], (SS b c), I, J1, 0, 0)
      refine r_run okX11_posts 2 (cs := []) (σ' := (35, [some (.ref 0), some (.int k), some (.int 0), some (.int 0)], [], (SS b c), I, J1, 0, 0)) rfl trivial ?_
      refine lp_opst γ hP hR hL hM ?_ 3 0 J1 (by omega) k1 (cs_f (fun x _ => rfl) c1)
      intro J0 hk hc
      refine r_run okX11_posts 5 (cs := []) (σ' := (71, [some (.ref 0), some (.int k), some (.int 0), some (.int (nI 3))], [.ref 78, .int k, .ref 65], (SS b c), I, J0, 0, 0)) rfl trivial ?_
      refine r_callV okX11_posts okX3_choose [.int k, .ref 78] [] 65 rfl rfl rfl kkX3_choose rfl rfl (by decide) rfl rfl rfl (by decide) ⟨Nat.le_refl _, Nat.le_refl _⟩ (Nat.le_of_ble_eq_true rfl) (o_choose γ (k := k) (OPos_k rfl rfl rfl rfl (fun a q1 q2 => hk a (by simp; omega)) hP) hL hM hc (fun x _ => hid_3 x)) (fun v1 S1 I1 J1 hp => ?_)
      obtain ⟨rfl, rfl, hz, hz3, hz4, kz⟩ := hp
      obtain ⟨Iz, eIz⟩ : ∃ z, z = I1 := ⟨_, rfl⟩
      subst eIz
      obtain ⟨Jz, eJz⟩ : ∃ z, z = J1 := ⟨_, rfl⟩
      subst eJz
      show Rj _ _ _ _ _ _ (74, [some (.ref 0), some (.int k), some (.int 0), some (.int (nI 3))], [], (SS b c), Iz, Jz, 0, 0)
      refine r_run okX11_posts 1 (cs := []) (σ' := (75, [some (.ref 0), some (.int k), some (.int 0), some (.int (nI 3))], [.int 0], (SS b c), Iz, Jz, 0, 0)) rfl trivial ?_
      refine r_look okX11_posts rfl (by decide) (off := 25) rfl (tgt := 100) rfl ?_
      show Rj _ _ _ _ _ _ (100, [some (.ref 0), some (.int k), some (.int 0), some (.int (nI 3))], [], (SS b c), Iz, Jz, 0, 0)
      refine r_run okX11_posts 2 (cs := []) (σ' := (104, [some (.ref 0), some (.int k), some (.int 0), some (.int (nI 3))], [.ref 65], (SS b c), Iz, Jz, 0, 0)) rfl trivial ?_
      refine r_callV okX11_posts okX3_bestSet [] [] 65 rfl rfl rfl kkX3_bestSet rfl rfl (by decide) rfl rfl rfl (by decide) ⟨Nat.le_refl _, Nat.le_refl _⟩ (Nat.le_of_ble_eq_true rfl) (o_bestSet γ) (fun v1 S1 I1 J1 hp => ?_)
      obtain ⟨rfl, rfl, rfl, rfl⟩ := hp
      show Rj _ _ _ _ _ _ (107, [some (.ref 0), some (.int k), some (.int 0), some (.int (nI 3))], [.int (Iz 65 4)], (SS b c), Iz, Jz, 0, 0)
      refine r_iret okX11_posts rfl rfl rfl (Nat.le_refl _) (Nat.le_refl _) ?_
      rw [hP.1] at hf
      obtain ⟨h8, d, hd⟩ := pst_yes hf
      unfold PsR at hz4; rw [hd] at hz4
      exact ⟨by unfold pstV pstR; rw [h8, hd]; simp [inB, hz4.1, hz4.2.1, hz4.2.2.1], rfl, hz, hz3, kJ_t (kJ_m (by decide) hk) (kJ_m (by decide) kz)⟩
    · have h21 : (bi (inB 0 0 2)) = (0 : Int32) := Classical.not_not.mp h210
      have h21s := bi_0.mp h21
      exact absurd h21 (by decide)
theorem o_posts1 (γ : GE) {b c : Bool} {I : AI} {J : AJ} (hP : OPos I J) (hR : ORad I J) (hL : OLd I) (hM : MLand I) (k : Int32) (hf : inB k 0 (bc32 (I 65 3)) = true) : Ct γ mX11_posts 4 0 0 [.ref 0, .int k, .int 1] (SS b c) I J (fun rt S' I' J' => some (.int (pstV I k 1)) = rt ∧ (SS b c) = S' ∧ kI [65] I I' ∧ I' 65 3 = I 65 3 ∧ kJ [67, 78] J J') := by
  refine ct_of okX11_posts (L := [some (.ref 0), some (.int k), some (.int 1), none]) (Nat.le_of_ble_eq_true rfl) rfl ?_
  refine r_run okX11_posts 4 (cs := []) (σ' := (6, [some (.ref 0), some (.int k), some (.int 1), none], [.ref 65, .int 0, .int k], (SS b c), I, J, 0, 0)) rfl trivial ?_
  refine r_callV okX11_posts okX3_size [] [.int 0, .int k] 65 rfl rfl rfl kkX3_size rfl rfl (by decide) rfl rfl rfl (by decide) ⟨Nat.le_refl _, Nat.le_refl _⟩ (Nat.le_of_ble_eq_true rfl) (o_lsize γ) (fun v1 S1 I1 J1 hp => ?_)
  obtain ⟨rfl, rfl, rfl, rfl⟩ := hp
  show Rj _ _ _ _ _ _ (9, [some (.ref 0), some (.int k), some (.int 1), none], [.int (bc32 (I 65 3)), .int 0, .int k], (SS b c), I, J, 0, 0)
  refine r_callS okX11_posts okX11_within [.int k, .int 0, .int (bc32 (I 65 3))] [] rfl rfl rfl kkX11_within rfl rfl (by decide) (by decide) ⟨Nat.le_refl _, Nat.le_refl _⟩ (Nat.le_of_ble_eq_true rfl) (o_win γ k 0 (bc32 (I 65 3))) (fun v1 S1 I1 J1 hp => ?_)
  obtain ⟨rfl, rfl, rfl, rfl⟩ := hp
  show Rj _ _ _ _ _ _ (12, [some (.ref 0), some (.int k), some (.int 1), none], [.int (bi (inB k 0 (bc32 (I 65 3))))], (SS b c), I, J, 0, 0)
  refine r_ifc okX11_posts rfl (fun (h12 : (bi (inB k 0 (bc32 (I 65 3)))) = (0 : Int32)) => ?_) (fun (h12 : ¬ (bi (inB k 0 (bc32 (I 65 3)))) = (0 : Int32)) => ?_)
  · have h12s := bi_0.mp h12
    have := bi_0.mp h12
    rw [hf] at this
    cases this
  · have h12s := bi_n0.mp h12
    refine r_run okX11_posts 3 (cs := []) (σ' := (18, [some (.ref 0), some (.int k), some (.int 1), none], [.int 2, .int 0, .int 1], (SS b c), I, J, 0, 0)) rfl trivial ?_
    refine r_callS okX11_posts okX11_within [.int 1, .int 0, .int 2] [] rfl rfl rfl kkX11_within rfl rfl (by decide) (by decide) ⟨Nat.le_refl _, Nat.le_refl _⟩ (Nat.le_of_ble_eq_true rfl) (o_win γ 1 0 2) (fun v1 S1 I1 J1 hp => ?_)
    obtain ⟨rfl, rfl, rfl, rfl⟩ := hp
    show Rj _ _ _ _ _ _ (21, [some (.ref 0), some (.int k), some (.int 1), none], [.int (bi (inB 1 0 2))], (SS b c), I, J, 0, 0)
    refine r_ifc okX11_posts rfl (fun (h21 : ¬ (bi (inB 1 0 2)) = (0 : Int32)) => ?_) (fun h210 => ?_)
    · have h21s := bi_n0.mp h21
      refine r_run okX11_posts 2 (cs := []) (σ' := (30, [some (.ref 0), some (.int k), some (.int 1), none], [.ref 78], (SS b c), I, J, 0, 0)) rfl trivial ?_
      refine r_callV okX11_posts okX0_fill [] [] 78 rfl rfl rfl kkX0_fill rfl rfl (by decide) rfl rfl rfl (by decide) ⟨Nat.le_refl _, Nat.le_refl _⟩ (Nat.le_of_ble_eq_true rfl) (a_fill γ rfl) (fun v1 S1 I1 J1 hp => ?_)
      obtain ⟨rfl, rfl, rfl, J1, rfl, k1, c1⟩ := hp
      show Rj _ _ _ _ _ _ (33, [some (.ref 0), some (.int k), some (.int 1), none], [], (SS b c), I, J1, 0, 0)
      refine r_run okX11_posts 2 (cs := []) (σ' := (35, [some (.ref 0), some (.int k), some (.int 1), some (.int 0)], [], (SS b c), I, J1, 0, 0)) rfl trivial ?_
      refine lp_opst γ hP hR hL hM ?_ 3 0 J1 (by omega) k1 (cs_f (fun x _ => rfl) c1)
      intro J0 hk hc
      refine r_run okX11_posts 5 (cs := []) (σ' := (71, [some (.ref 0), some (.int k), some (.int 1), some (.int (nI 3))], [.ref 78, .int k, .ref 65], (SS b c), I, J0, 0, 0)) rfl trivial ?_
      refine r_callV okX11_posts okX3_choose [.int k, .ref 78] [] 65 rfl rfl rfl kkX3_choose rfl rfl (by decide) rfl rfl rfl (by decide) ⟨Nat.le_refl _, Nat.le_refl _⟩ (Nat.le_of_ble_eq_true rfl) (o_choose γ (k := k) (OPos_k rfl rfl rfl rfl (fun a q1 q2 => hk a (by simp; omega)) hP) hL hM hc (fun x _ => hid_3 x)) (fun v1 S1 I1 J1 hp => ?_)
      obtain ⟨rfl, rfl, hz, hz3, hz4, kz⟩ := hp
      obtain ⟨Iz, eIz⟩ : ∃ z, z = I1 := ⟨_, rfl⟩
      subst eIz
      obtain ⟨Jz, eJz⟩ : ∃ z, z = J1 := ⟨_, rfl⟩
      subst eJz
      show Rj _ _ _ _ _ _ (74, [some (.ref 0), some (.int k), some (.int 1), some (.int (nI 3))], [], (SS b c), Iz, Jz, 0, 0)
      refine r_run okX11_posts 1 (cs := []) (σ' := (75, [some (.ref 0), some (.int k), some (.int 1), some (.int (nI 3))], [.int 1], (SS b c), Iz, Jz, 0, 0)) rfl trivial ?_
      refine r_look okX11_posts rfl (by decide) (off := 33) rfl (tgt := 108) rfl ?_
      show Rj _ _ _ _ _ _ (108, [some (.ref 0), some (.int k), some (.int 1), some (.int (nI 3))], [], (SS b c), Iz, Jz, 0, 0)
      refine r_run okX11_posts 2 (cs := []) (σ' := (112, [some (.ref 0), some (.int k), some (.int 1), some (.int (nI 3))], [.ref 65], (SS b c), Iz, Jz, 0, 0)) rfl trivial ?_
      refine r_callV okX11_posts okX3_bestPeople [] [] 65 rfl rfl rfl kkX3_bestPeople rfl rfl (by decide) rfl rfl rfl (by decide) ⟨Nat.le_refl _, Nat.le_refl _⟩ (Nat.le_of_ble_eq_true rfl) (o_bestPeople γ) (fun v1 S1 I1 J1 hp => ?_)
      obtain ⟨rfl, rfl, rfl, rfl⟩ := hp
      show Rj _ _ _ _ _ _ (115, [some (.ref 0), some (.int k), some (.int 1), some (.int (nI 3))], [.int (Iz 65 5)], (SS b c), Iz, Jz, 0, 0)
      refine r_iret okX11_posts rfl rfl rfl (Nat.le_refl _) (Nat.le_refl _) ?_
      rw [hP.1] at hf
      obtain ⟨h8, d, hd⟩ := pst_yes hf
      unfold PsR at hz4; rw [hd] at hz4
      exact ⟨by unfold pstV pstR; rw [h8, hd]; simp [inB, hz4.1, hz4.2.1, hz4.2.2.1], rfl, hz, hz3, kJ_t (kJ_m (by decide) hk) (kJ_m (by decide) kz)⟩
    · have h21 : (bi (inB 1 0 2)) = (0 : Int32) := Classical.not_not.mp h210
      have h21s := bi_0.mp h21
      exact absurd h21 (by decide)
theorem o_posts2 (γ : GE) {b c : Bool} {I : AI} {J : AJ} (hP : OPos I J) (hR : ORad I J) (hL : OLd I) (hM : MLand I) (k : Int32) (hf : inB k 0 (bc32 (I 65 3)) = true) : Ct γ mX11_posts 4 0 0 [.ref 0, .int k, .int 2] (SS b c) I J (fun rt S' I' J' => some (.int (pstV I k 2)) = rt ∧ (SS b c) = S' ∧ kI [65] I I' ∧ I' 65 3 = I 65 3 ∧ kJ [67, 78] J J') := by
  refine ct_of okX11_posts (L := [some (.ref 0), some (.int k), some (.int 2), none]) (Nat.le_of_ble_eq_true rfl) rfl ?_
  refine r_run okX11_posts 4 (cs := []) (σ' := (6, [some (.ref 0), some (.int k), some (.int 2), none], [.ref 65, .int 0, .int k], (SS b c), I, J, 0, 0)) rfl trivial ?_
  refine r_callV okX11_posts okX3_size [] [.int 0, .int k] 65 rfl rfl rfl kkX3_size rfl rfl (by decide) rfl rfl rfl (by decide) ⟨Nat.le_refl _, Nat.le_refl _⟩ (Nat.le_of_ble_eq_true rfl) (o_lsize γ) (fun v1 S1 I1 J1 hp => ?_)
  obtain ⟨rfl, rfl, rfl, rfl⟩ := hp
  show Rj _ _ _ _ _ _ (9, [some (.ref 0), some (.int k), some (.int 2), none], [.int (bc32 (I 65 3)), .int 0, .int k], (SS b c), I, J, 0, 0)
  refine r_callS okX11_posts okX11_within [.int k, .int 0, .int (bc32 (I 65 3))] [] rfl rfl rfl kkX11_within rfl rfl (by decide) (by decide) ⟨Nat.le_refl _, Nat.le_refl _⟩ (Nat.le_of_ble_eq_true rfl) (o_win γ k 0 (bc32 (I 65 3))) (fun v1 S1 I1 J1 hp => ?_)
  obtain ⟨rfl, rfl, rfl, rfl⟩ := hp
  show Rj _ _ _ _ _ _ (12, [some (.ref 0), some (.int k), some (.int 2), none], [.int (bi (inB k 0 (bc32 (I 65 3))))], (SS b c), I, J, 0, 0)
  refine r_ifc okX11_posts rfl (fun (h12 : (bi (inB k 0 (bc32 (I 65 3)))) = (0 : Int32)) => ?_) (fun (h12 : ¬ (bi (inB k 0 (bc32 (I 65 3)))) = (0 : Int32)) => ?_)
  · have h12s := bi_0.mp h12
    have := bi_0.mp h12
    rw [hf] at this
    cases this
  · have h12s := bi_n0.mp h12
    refine r_run okX11_posts 3 (cs := []) (σ' := (18, [some (.ref 0), some (.int k), some (.int 2), none], [.int 2, .int 0, .int 2], (SS b c), I, J, 0, 0)) rfl trivial ?_
    refine r_callS okX11_posts okX11_within [.int 2, .int 0, .int 2] [] rfl rfl rfl kkX11_within rfl rfl (by decide) (by decide) ⟨Nat.le_refl _, Nat.le_refl _⟩ (Nat.le_of_ble_eq_true rfl) (o_win γ 2 0 2) (fun v1 S1 I1 J1 hp => ?_)
    obtain ⟨rfl, rfl, rfl, rfl⟩ := hp
    show Rj _ _ _ _ _ _ (21, [some (.ref 0), some (.int k), some (.int 2), none], [.int (bi (inB 2 0 2))], (SS b c), I, J, 0, 0)
    refine r_ifc okX11_posts rfl (fun (h21 : ¬ (bi (inB 2 0 2)) = (0 : Int32)) => ?_) (fun h210 => ?_)
    · have h21s := bi_n0.mp h21
      refine r_run okX11_posts 2 (cs := []) (σ' := (30, [some (.ref 0), some (.int k), some (.int 2), none], [.ref 78], (SS b c), I, J, 0, 0)) rfl trivial ?_
      refine r_callV okX11_posts okX0_fill [] [] 78 rfl rfl rfl kkX0_fill rfl rfl (by decide) rfl rfl rfl (by decide) ⟨Nat.le_refl _, Nat.le_refl _⟩ (Nat.le_of_ble_eq_true rfl) (a_fill γ rfl) (fun v1 S1 I1 J1 hp => ?_)
      obtain ⟨rfl, rfl, rfl, J1, rfl, k1, c1⟩ := hp
      show Rj _ _ _ _ _ _ (33, [some (.ref 0), some (.int k), some (.int 2), none], [], (SS b c), I, J1, 0, 0)
      refine r_run okX11_posts 2 (cs := []) (σ' := (35, [some (.ref 0), some (.int k), some (.int 2), some (.int 0)], [], (SS b c), I, J1, 0, 0)) rfl trivial ?_
      refine lp_opst γ hP hR hL hM ?_ 3 0 J1 (by omega) k1 (cs_f (fun x _ => rfl) c1)
      intro J0 hk hc
      refine r_run okX11_posts 5 (cs := []) (σ' := (71, [some (.ref 0), some (.int k), some (.int 2), some (.int (nI 3))], [.ref 78, .int k, .ref 65], (SS b c), I, J0, 0, 0)) rfl trivial ?_
      refine r_callV okX11_posts okX3_choose [.int k, .ref 78] [] 65 rfl rfl rfl kkX3_choose rfl rfl (by decide) rfl rfl rfl (by decide) ⟨Nat.le_refl _, Nat.le_refl _⟩ (Nat.le_of_ble_eq_true rfl) (o_choose γ (k := k) (OPos_k rfl rfl rfl rfl (fun a q1 q2 => hk a (by simp; omega)) hP) hL hM hc (fun x _ => hid_3 x)) (fun v1 S1 I1 J1 hp => ?_)
      obtain ⟨rfl, rfl, hz, hz3, hz4, kz⟩ := hp
      obtain ⟨Iz, eIz⟩ : ∃ z, z = I1 := ⟨_, rfl⟩
      subst eIz
      obtain ⟨Jz, eJz⟩ : ∃ z, z = J1 := ⟨_, rfl⟩
      subst eJz
      show Rj _ _ _ _ _ _ (74, [some (.ref 0), some (.int k), some (.int 2), some (.int (nI 3))], [], (SS b c), Iz, Jz, 0, 0)
      refine r_run okX11_posts 1 (cs := []) (σ' := (75, [some (.ref 0), some (.int k), some (.int 2), some (.int (nI 3))], [.int 2], (SS b c), Iz, Jz, 0, 0)) rfl trivial ?_
      refine r_look okX11_posts rfl (by decide) (off := 41) rfl (tgt := 116) rfl ?_
      show Rj _ _ _ _ _ _ (116, [some (.ref 0), some (.int k), some (.int 2), some (.int (nI 3))], [], (SS b c), Iz, Jz, 0, 0)
      refine r_run okX11_posts 2 (cs := []) (σ' := (120, [some (.ref 0), some (.int k), some (.int 2), some (.int (nI 3))], [.ref 65], (SS b c), Iz, Jz, 0, 0)) rfl trivial ?_
      refine r_callV okX11_posts okX3_bestCells [] [] 65 rfl rfl rfl kkX3_bestCells rfl rfl (by decide) rfl rfl rfl (by decide) ⟨Nat.le_refl _, Nat.le_refl _⟩ (Nat.le_of_ble_eq_true rfl) (o_bestCells γ) (fun v1 S1 I1 J1 hp => ?_)
      obtain ⟨rfl, rfl, rfl, rfl⟩ := hp
      show Rj _ _ _ _ _ _ (123, [some (.ref 0), some (.int k), some (.int 2), some (.int (nI 3))], [.int (Iz 65 6)], (SS b c), Iz, Jz, 0, 0)
      refine r_iret okX11_posts rfl rfl rfl (Nat.le_refl _) (Nat.le_refl _) ?_
      rw [hP.1] at hf
      obtain ⟨h8, d, hd⟩ := pst_yes hf
      unfold PsR at hz4; rw [hd] at hz4
      exact ⟨by unfold pstV pstR; rw [h8, hd]; simp [inB, hz4.1, hz4.2.1, hz4.2.2.1], rfl, hz, hz3, kJ_t (kJ_m (by decide) hk) (kJ_m (by decide) kz)⟩
    · have h21 : (bi (inB 2 0 2)) = (0 : Int32) := Classical.not_not.mp h210
      have h21s := bi_0.mp h21
      exact absurd h21 (by decide)
theorem o_postsF (γ : GE) {b c : Bool} {I : AI} {J : AJ} (hP : OPos I J) (hR : ORad I J) (hL : OLd I) (hM : MLand I) (k w : Int32) (hf : (inB k 0 (bc32 (I 65 3)) && inB w 0 2) = false) : Ct γ mX11_posts 4 0 0 [.ref 0, .int k, .int w] (SS b c) I J (fun rt S' I' J' => some (.int (pstV I k w)) = rt ∧ (SS b c) = S' ∧ kI [65] I I' ∧ I' 65 3 = I 65 3 ∧ kJ [67, 78] J J') := by
  refine ct_of okX11_posts (L := [some (.ref 0), some (.int k), some (.int w), none]) (Nat.le_of_ble_eq_true rfl) rfl ?_
  refine r_run okX11_posts 4 (cs := []) (σ' := (6, [some (.ref 0), some (.int k), some (.int w), none], [.ref 65, .int 0, .int k], (SS b c), I, J, 0, 0)) rfl trivial ?_
  refine r_callV okX11_posts okX3_size [] [.int 0, .int k] 65 rfl rfl rfl kkX3_size rfl rfl (by decide) rfl rfl rfl (by decide) ⟨Nat.le_refl _, Nat.le_refl _⟩ (Nat.le_of_ble_eq_true rfl) (o_lsize γ) (fun v1 S1 I1 J1 hp => ?_)
  obtain ⟨rfl, rfl, rfl, rfl⟩ := hp
  show Rj _ _ _ _ _ _ (9, [some (.ref 0), some (.int k), some (.int w), none], [.int (bc32 (I 65 3)), .int 0, .int k], (SS b c), I, J, 0, 0)
  refine r_callS okX11_posts okX11_within [.int k, .int 0, .int (bc32 (I 65 3))] [] rfl rfl rfl kkX11_within rfl rfl (by decide) (by decide) ⟨Nat.le_refl _, Nat.le_refl _⟩ (Nat.le_of_ble_eq_true rfl) (o_win γ k 0 (bc32 (I 65 3))) (fun v1 S1 I1 J1 hp => ?_)
  obtain ⟨rfl, rfl, rfl, rfl⟩ := hp
  show Rj _ _ _ _ _ _ (12, [some (.ref 0), some (.int k), some (.int w), none], [.int (bi (inB k 0 (bc32 (I 65 3))))], (SS b c), I, J, 0, 0)
  refine r_ifc okX11_posts rfl (fun (h12 : (bi (inB k 0 (bc32 (I 65 3)))) = (0 : Int32)) => ?_) (fun (h12 : ¬ (bi (inB k 0 (bc32 (I 65 3)))) = (0 : Int32)) => ?_)
  · have h12s := bi_0.mp h12
    refine r_run okX11_posts 1 (cs := []) (σ' := (25, [some (.ref 0), some (.int k), some (.int w), none], [.int (-1)], (SS b c), I, J, 0, 0)) rfl trivial ?_
    refine r_iret okX11_posts rfl rfl rfl (Nat.le_refl _) (Nat.le_refl _) ?_
    exact ⟨by rw [pst_no (by rw [← hP.1]; exact hf)], rfl, kI_r, rfl, kJ_r⟩
  · have h12s := bi_n0.mp h12
    refine r_run okX11_posts 3 (cs := []) (σ' := (18, [some (.ref 0), some (.int k), some (.int w), none], [.int 2, .int 0, .int w], (SS b c), I, J, 0, 0)) rfl trivial ?_
    refine r_callS okX11_posts okX11_within [.int w, .int 0, .int 2] [] rfl rfl rfl kkX11_within rfl rfl (by decide) (by decide) ⟨Nat.le_refl _, Nat.le_refl _⟩ (Nat.le_of_ble_eq_true rfl) (o_win γ w 0 2) (fun v1 S1 I1 J1 hp => ?_)
    obtain ⟨rfl, rfl, rfl, rfl⟩ := hp
    show Rj _ _ _ _ _ _ (21, [some (.ref 0), some (.int k), some (.int w), none], [.int (bi (inB w 0 2))], (SS b c), I, J, 0, 0)
    refine r_ifc okX11_posts rfl (fun (h21 : ¬ (bi (inB w 0 2)) = (0 : Int32)) => ?_) (fun h210 => ?_)
    · have h21s := bi_n0.mp h21
      have h21s := bi_n0.mp h21
      rw [h12s, h21s] at hf
      cases hf
    · have h21 : (bi (inB w 0 2)) = (0 : Int32) := Classical.not_not.mp h210
      have h21s := bi_0.mp h21
      refine r_run okX11_posts 1 (cs := []) (σ' := (25, [some (.ref 0), some (.int k), some (.int w), none], [.int (-1)], (SS b c), I, J, 0, 0)) rfl trivial ?_
      refine r_iret okX11_posts rfl rfl rfl (Nat.le_refl _) (Nat.le_refl _) ?_
      exact ⟨by rw [pst_no (by rw [← hP.1]; exact hf)], rfl, kI_r, rfl, kJ_r⟩
theorem o_posts (γ : GE) {b c : Bool} {I : AI} {J : AJ} (hP : OPos I J) (hR : ORad I J) (hL : OLd I) (hM : MLand I) (k w : Int32) : Ct γ mX11_posts 4 0 0 [.ref 0, .int k, .int w] (SS b c) I J (fun rt S' I' J' => some (.int (pstV I k w)) = rt ∧ (SS b c) = S' ∧ kI [65] I I' ∧ I' 65 3 = I 65 3 ∧ kJ [67, 78] J J') := by
  cases hf : (inB k 0 (bc32 (I 65 3)) && inB w 0 2) with
  | false => exact o_postsF γ hP hR hL hM k w hf
  | true =>
    rw [Bool.and_eq_true] at hf
    obtain ⟨i, hi, rfl⟩ := in_nat (n := 2) hf.2 rfl (by decide)
    rcases (by omega : i = 0 ∨ i = 1 ∨ i = 2) with rfl | rfl | rfl
    · exact o_posts0 γ hP hR hL hM k hf.1
    · exact o_posts1 γ hP hR hL hM k hf.1
    · exact o_posts2 γ hP hR hL hM k hf.1
