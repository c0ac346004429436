/-! ===== Walks: bestBox ===== -/
def betB (v : Nat → Nat) (s t : Nat) : Bool := if v s = v t then (if popN s = popN t then decide (s < t) else decide (popN s < popN t)) else decide (v s < v t)
def VP (I : AI) (v : Nat → Nat) : Prop := ∀ s, s < 256 → smB (I 6) (onB (nI s)) 8 = nI (v s) ∧ v s < 2 ^ 30
theorem pop_le (s : Nat) : popN s ≤ 8 := cnt_le 8
def whB (I : AI) (U s n : Nat) : Bool := (List.range n).any fun i => U.testBit i && (!s.testBit i && decide (¬ I 51 (s ||| 2 ^ i) = 0))
theorem tb_and : ∀ U, U < 256 → ∀ i, i < 8 → ((nI U &&& ((1 : Int32) <<< (nI i &&& 31)) = 0 ↔ U.testBit i = false) ∧ nI U ||| ((1 : Int32) <<< (nI i &&& 31)) = nI (U ||| 2 ^ i) ∧ U ||| 2 ^ i < 256) := by decide +kernel
theorem wh_more {I : AI} {U s n m : Nat} (h : whB I U s n = true) (hm : n ≤ m) : whB I U s m = true := by
  unfold whB at h ⊢
  rw [List.any_eq_true] at h ⊢
  obtain ⟨p, hp, q⟩ := h
  exact ⟨p, List.mem_range.mpr (Nat.lt_of_lt_of_le (List.mem_range.mp hp) hm), q⟩
def metN (m : Int32) (F : Nat → Bool) : Nat → Nat → Bool
  | 0, x => F x
  | k + 1, x => metN m F k x || rchN m F (k + 1) x
theorem o_isBetter (γ : GE) {b c : Bool} {I : AI} {J : AJ} {v : Nat → Nat} (hv : VP I v) {s t : Nat} (hs : s < 256) (ht : t < 256) : Ct γ mX9_isBetter 1 0 0 [.ref 42, .int (nI s), .int (nI t)] (SS b c) I J (rI (bi (betB v s t)) (SS b c) I J) := by
  obtain ⟨es, vs⟩ := hv s hs
  obtain ⟨et, vt⟩ := hv t ht
  have ps := bc32_q s hs
  have pt := bc32_q t ht
  have := pop_le s
  have := pop_le t
  refine ct_of okX9_isBetter (L := [some (.ref 42), some (.int (nI s)), some (.int (nI t)), none, none, none, none]) (Nat.le_of_ble_eq_true rfl) rfl ?_
  refine r_run okX9_isBetter 3 (cs := []) (σ' := (5, [some (.ref 42), some (.int (nI s)), some (.int (nI t)), none, none, none, none], [.int (nI s), .ref 1], (SS b c), I, J, 0, 0)) rfl trivial ?_
  refine r_callV okX9_isBetter okX2_peopleOfBox [.int (nI s)] [] 1 rfl rfl rfl kkX2_peopleOfBox rfl rfl (by decide) rfl rfl rfl (by decide) ⟨Nat.le_refl _, Nat.le_refl _⟩ (Nat.le_of_ble_eq_true rfl) (o_peopleOfBox γ (nI s)) (fun v1 S1 I1 J1 hp => ?_)
  obtain ⟨rfl, rfl, rfl, rfl⟩ := hp
  show Rj _ _ _ _ _ _ (8, [some (.ref 42), some (.int (nI s)), some (.int (nI t)), none, none, none, none], [.int (smB (I 6) (onB (nI s)) 8)], (SS b c), I, J, 0, 0)
  simp only [es]
  show Rj _ _ _ _ _ _ (8, [some (.ref 42), some (.int (nI s)), some (.int (nI t)), none, none, none, none], [.int (nI (v s))], (SS b c), I, J, 0, 0)
  refine r_run okX9_isBetter 4 (cs := []) (σ' := (14, [some (.ref 42), some (.int (nI s)), some (.int (nI t)), some (.int (nI (v s))), none, none, none], [.int (nI t), .ref 1], (SS b c), I, J, 0, 0)) rfl trivial ?_
  refine r_callV okX9_isBetter okX2_peopleOfBox [.int (nI t)] [] 1 rfl rfl rfl kkX2_peopleOfBox rfl rfl (by decide) rfl rfl rfl (by decide) ⟨Nat.le_refl _, Nat.le_refl _⟩ (Nat.le_of_ble_eq_true rfl) (o_peopleOfBox γ (nI t)) (fun v1 S1 I1 J1 hp => ?_)
  obtain ⟨rfl, rfl, rfl, rfl⟩ := hp
  show Rj _ _ _ _ _ _ (17, [some (.ref 42), some (.int (nI s)), some (.int (nI t)), some (.int (nI (v s))), none, none, none], [.int (smB (I 6) (onB (nI t)) 8)], (SS b c), I, J, 0, 0)
  simp only [et]
  show Rj _ _ _ _ _ _ (17, [some (.ref 42), some (.int (nI s)), some (.int (nI t)), some (.int (nI (v s))), none, none, none], [.int (nI (v t))], (SS b c), I, J, 0, 0)
  refine r_run okX9_isBetter 3 (cs := []) (σ' := (22, [some (.ref 42), some (.int (nI s)), some (.int (nI t)), some (.int (nI (v s))), some (.int (nI (v t))), none, none], [.int (nI (v t)), .int (nI (v s))], (SS b c), I, J, 0, 0)) rfl trivial ?_
  refine r_icmp okX9_isBetter rfl (fun (h22 : (nI (v s)) = (nI (v t))) => ?_) (fun (h22 : ¬ (nI (v s)) = (nI (v t))) => ?_)
  · refine r_run okX9_isBetter 1 (cs := []) (σ' := (38, [some (.ref 42), some (.int (nI s)), some (.int (nI t)), some (.int (nI (v s))), some (.int (nI (v t))), none, none], [.int (nI s)], (SS b c), I, J, 0, 0)) rfl trivial ?_
    refine r_callS okX9_isBetter okJ6_bitCount_0f7a4 [.int (nI s)] [] rfl rfl rfl kkJ6_bitCount_0f7a4 rfl rfl (by decide) (by decide) ⟨Nat.le_refl _, Nat.le_refl _⟩ (Nat.le_of_ble_eq_true rfl) (c_bc32 γ (nI s)) (fun v1 S1 I1 J1 hp => ?_)
    obtain ⟨rfl, rfl, rfl, rfl⟩ := hp
    show Rj _ _ _ _ _ _ (41, [some (.ref 42), some (.int (nI s)), some (.int (nI t)), some (.int (nI (v s))), some (.int (nI (v t))), none, none], [.int (bc32 (nI s))], (SS b c), I, J, 0, 0)
    simp only [ps]
    show Rj _ _ _ _ _ _ (41, [some (.ref 42), some (.int (nI s)), some (.int (nI t)), some (.int (nI (v s))), some (.int (nI (v t))), none, none], [.int (nI (popN s))], (SS b c), I, J, 0, 0)
    refine r_run okX9_isBetter 2 (cs := []) (σ' := (44, [some (.ref 42), some (.int (nI s)), some (.int (nI t)), some (.int (nI (v s))), some (.int (nI (v t))), some (.int (nI (popN s))), none], [.int (nI t)], (SS b c), I, J, 0, 0)) rfl trivial ?_
    refine r_callS okX9_isBetter okJ6_bitCount_0f7a4 [.int (nI t)] [] rfl rfl rfl kkJ6_bitCount_0f7a4 rfl rfl (by decide) (by decide) ⟨Nat.le_refl _, Nat.le_refl _⟩ (Nat.le_of_ble_eq_true rfl) (c_bc32 γ (nI t)) (fun v1 S1 I1 J1 hp => ?_)
    obtain ⟨rfl, rfl, rfl, rfl⟩ := hp
    show Rj _ _ _ _ _ _ (47, [some (.ref 42), some (.int (nI s)), some (.int (nI t)), some (.int (nI (v s))), some (.int (nI (v t))), some (.int (nI (popN s))), none], [.int (bc32 (nI t))], (SS b c), I, J, 0, 0)
    simp only [pt]
    show Rj _ _ _ _ _ _ (47, [some (.ref 42), some (.int (nI s)), some (.int (nI t)), some (.int (nI (v s))), some (.int (nI (v t))), some (.int (nI (popN s))), none], [.int (nI (popN t))], (SS b c), I, J, 0, 0)
    refine r_run okX9_isBetter 3 (cs := []) (σ' := (53, [some (.ref 42), some (.int (nI s)), some (.int (nI t)), some (.int (nI (v s))), some (.int (nI (v t))), some (.int (nI (popN s))), some (.int (nI (popN t)))], [.int (nI (popN t)), .int (nI (popN s))], (SS b c), I, J, 0, 0)) rfl trivial ?_
    refine r_icmp okX9_isBetter rfl (fun (h53 : (nI (popN s)) = (nI (popN t))) => ?_) (fun (h53 : ¬ (nI (popN s)) = (nI (popN t))) => ?_)
    · refine r_run okX9_isBetter 2 (cs := []) (σ' := (73, [some (.ref 42), some (.int (nI s)), some (.int (nI t)), some (.int (nI (v s))), some (.int (nI (v t))), some (.int (nI (popN s))), some (.int (nI (popN t)))], [.int (nI t), .int (nI s)], (SS b c), I, J, 0, 0)) rfl trivial ?_
      refine r_icmp okX9_isBetter rfl (fun (h73 : (nI t) ≤ (nI s)) => ?_) (fun (h73 : ¬ (nI t) ≤ (nI s)) => ?_)
      · refine r_run okX9_isBetter 1 (cs := []) (σ' := (81, [some (.ref 42), some (.int (nI s)), some (.int (nI t)), some (.int (nI (v s))), some (.int (nI (v t))), some (.int (nI (popN s))), some (.int (nI (popN t)))], [.int 0], (SS b c), I, J, 0, 0)) rfl trivial ?_
        refine r_iret okX9_isBetter rfl rfl (by decide +kernel) (Nat.le_refl _) (Nat.le_refl _) ?_
        refine ⟨?_, rfl, rfl, rfl⟩
        unfold betB
        rw [if_pos (nI_inj (by omega) (by omega) h22)]
        rw [if_pos (nI_inj (by omega) (by omega) h53)]
        rw [decide_eq_false (fun z => absurd h73 (nI_ge z (by omega)))]; rfl
      · refine r_run okX9_isBetter 2 (cs := []) (σ' := (81, [some (.ref 42), some (.int (nI s)), some (.int (nI t)), some (.int (nI (v s))), some (.int (nI (v t))), some (.int (nI (popN s))), some (.int (nI (popN t)))], [.int 1], (SS b c), I, J, 0, 0)) rfl trivial ?_
        refine r_iret okX9_isBetter rfl rfl (by decide +kernel) (Nat.le_refl _) (Nat.le_refl _) ?_
        refine ⟨?_, rfl, rfl, rfl⟩
        unfold betB
        rw [if_pos (nI_inj (by omega) (by omega) h22)]
        rw [if_pos (nI_inj (by omega) (by omega) h53)]
        rw [decide_eq_true (Nat.lt_of_not_le fun z => h73 (nI_le z (by omega)))]; rfl
    · refine r_run okX9_isBetter 2 (cs := []) (σ' := (60, [some (.ref 42), some (.int (nI s)), some (.int (nI t)), some (.int (nI (v s))), some (.int (nI (v t))), some (.int (nI (popN s))), some (.int (nI (popN t)))], [.int (nI (popN t)), .int (nI (popN s))], (SS b c), I, J, 0, 0)) rfl trivial ?_
      refine r_icmp okX9_isBetter rfl (fun (h60 : (nI (popN t)) ≤ (nI (popN s))) => ?_) (fun (h60 : ¬ (nI (popN t)) ≤ (nI (popN s))) => ?_)
      · refine r_run okX9_isBetter 2 (cs := []) (σ' := (81, [some (.ref 42), some (.int (nI s)), some (.int (nI t)), some (.int (nI (v s))), some (.int (nI (v t))), some (.int (nI (popN s))), some (.int (nI (popN t)))], [.int 0], (SS b c), I, J, 0, 0)) rfl trivial ?_
        refine r_iret okX9_isBetter rfl rfl (by decide +kernel) (Nat.le_refl _) (Nat.le_refl _) ?_
        refine ⟨?_, rfl, rfl, rfl⟩
        unfold betB
        rw [if_pos (nI_inj (by omega) (by omega) h22)]
        rw [if_neg (fun z => h53 (by rw [z]))]
        rw [decide_eq_false (fun z => absurd h60 (nI_ge z (by omega)))]; rfl
      · refine r_run okX9_isBetter 2 (cs := []) (σ' := (81, [some (.ref 42), some (.int (nI s)), some (.int (nI t)), some (.int (nI (v s))), some (.int (nI (v t))), some (.int (nI (popN s))), some (.int (nI (popN t)))], [.int 1], (SS b c), I, J, 0, 0)) rfl trivial ?_
        refine r_iret okX9_isBetter rfl rfl (by decide +kernel) (Nat.le_refl _) (Nat.le_refl _) ?_
        refine ⟨?_, rfl, rfl, rfl⟩
        unfold betB
        rw [if_pos (nI_inj (by omega) (by omega) h22)]
        rw [if_neg (fun z => h53 (by rw [z]))]
        rw [decide_eq_true (Nat.lt_of_not_le fun z => h60 (nI_le z (by omega)))]; rfl
  · refine r_run okX9_isBetter 2 (cs := []) (σ' := (28, [some (.ref 42), some (.int (nI s)), some (.int (nI t)), some (.int (nI (v s))), some (.int (nI (v t))), none, none], [.int (nI (v t)), .int (nI (v s))], (SS b c), I, J, 0, 0)) rfl trivial ?_
    refine r_icmp okX9_isBetter rfl (fun (h28 : (nI (v t)) ≤ (nI (v s))) => ?_) (fun (h28 : ¬ (nI (v t)) ≤ (nI (v s))) => ?_)
    · refine r_run okX9_isBetter 1 (cs := []) (σ' := (36, [some (.ref 42), some (.int (nI s)), some (.int (nI t)), some (.int (nI (v s))), some (.int (nI (v t))), none, none], [.int 0], (SS b c), I, J, 0, 0)) rfl trivial ?_
      refine r_iret okX9_isBetter rfl rfl (by decide +kernel) (Nat.le_refl _) (Nat.le_refl _) ?_
      refine ⟨?_, rfl, rfl, rfl⟩
      unfold betB
      rw [if_neg (fun z => h22 (by rw [z]))]
      rw [decide_eq_false (fun z => absurd h28 (nI_ge z (by omega)))]; rfl
    · refine r_run okX9_isBetter 2 (cs := []) (σ' := (36, [some (.ref 42), some (.int (nI s)), some (.int (nI t)), some (.int (nI (v s))), some (.int (nI (v t))), none, none], [.int 1], (SS b c), I, J, 0, 0)) rfl trivial ?_
      refine r_iret okX9_isBetter rfl rfl (by decide +kernel) (Nat.le_refl _) (Nat.le_refl _) ?_
      refine ⟨?_, rfl, rfl, rfl⟩
      unfold betB
      rw [if_neg (fun z => h22 (by rw [z]))]
      rw [decide_eq_true (Nat.lt_of_not_le fun z => h28 (nI_le z (by omega)))]; rfl
theorem lp_wh (γ : GE) {b c : Bool} {I : AI} {J : AJ} {s U : Nat} (hs : s < 256) (hU : U < 256) : ∀ (j q : Nat), q + j = 8 → whB I U s q = false → Rj γ mX9_isWithinHopeless 0 0 0 (rI (bi (whB I U s 8)) (SS b c) I J) (2, [some (.ref 42), some (.int (nI s)), some (.int (nI U)), some (.int (nI q)), none], [], (SS b c), I, J, 0, 0) := by
  intro j
  induction j with
  | zero =>
    intro q hj hw
    refine r_run okX9_isWithinHopeless 2 (cs := []) (σ' := (5, [some (.ref 42), some (.int (nI s)), some (.int (nI U)), some (.int (nI q)), none], [.int 8, .int (nI q)], (SS b c), I, J, 0, 0)) rfl trivial ?_
    refine r_icmp okX9_isWithinHopeless rfl (fun (h5 : (8 : Int32) ≤ (nI q)) => ?_) (fun (h5 : ¬ (8 : Int32) ≤ (nI q)) => ?_)
    · refine r_run okX9_isWithinHopeless 1 (cs := []) (σ' := (48, [some (.ref 42), some (.int (nI s)), some (.int (nI U)), some (.int (nI q)), none], [.int 0], (SS b c), I, J, 0, 0)) rfl trivial ?_
      refine r_iret okX9_isWithinHopeless rfl rfl (by decide +kernel) (Nat.le_refl _) (Nat.le_refl _) ?_
      have e : q = 8 := by omega
      subst e
      rw [hw]
      exact ⟨rfl, rfl, rfl, rfl⟩
    · exact absurd (nI_le (a := 8) (b := q) (by omega) (by omega)) h5
  | succ j ih =>
    intro q hj hw
    have tU := tb_and U hU q (by omega)
    have ts := tb_and s hs q (by omega)
    have tor := ts.2.1
    have co : (nI (s ||| 2 ^ q)).toNatClampNeg = s ||| 2 ^ q := nI_clamp (by have := ts.2.2; omega)
    refine r_run okX9_isWithinHopeless 2 (cs := []) (σ' := (5, [some (.ref 42), some (.int (nI s)), some (.int (nI U)), some (.int (nI q)), none], [.int 8, .int (nI q)], (SS b c), I, J, 0, 0)) rfl trivial ?_
    refine r_icmp okX9_isWithinHopeless rfl (fun (h5 : (8 : Int32) ≤ (nI q)) => ?_) (fun (h5 : ¬ (8 : Int32) ≤ (nI q)) => ?_)
    · exact absurd h5 (nI_ge (a := q) (b := 8) (by omega) (by decide))
    · refine r_run okX9_isWithinHopeless 7 (cs := []) (σ' := (17, [some (.ref 42), some (.int (nI s)), some (.int (nI U)), some (.int (nI q)), some (.int ((1 : Int32) <<< ((nI q) &&& 31)))], [.int ((nI U) &&& ((1 : Int32) <<< ((nI q) &&& 31)))], (SS b c), I, J, 0, 0)) rfl trivial ?_
      refine r_ifc okX9_isWithinHopeless rfl (fun (h17 : ((nI U) &&& ((1 : Int32) <<< ((nI q) &&& 31))) = (0 : Int32)) => ?_) (fun (h17 : ¬ ((nI U) &&& ((1 : Int32) <<< ((nI q) &&& 31))) = (0 : Int32)) => ?_)
      · refine r_run okX9_isWithinHopeless 2 (cs := []) (σ' := (2, [some (.ref 42), some (.int (nI s)), some (.int (nI U)), some (.int ((nI q) + 1)), some (.int ((1 : Int32) <<< ((nI q) &&& 31)))], [], (SS b c), I, J, 0, 0)) rfl trivial ?_
        rw [nI_eq1]
        have hf : (U.testBit q && (!s.testBit q && decide (¬ I 51 (s ||| 2 ^ q) = 0))) = false := by rw [tU.1.mp h17]; rfl
        refine r_weak (L' := [some (.ref 42), some (.int (nI s)), some (.int (nI U)), some (.int (nI (q + 1))), none]) ⟨rfl, rfl, rfl, rfl, trivial⟩ ?_
        refine ih (q + 1) (by omega) ?_
        unfold whB at hw ⊢
        rw [any_s, hw, hf]; rfl
      · refine r_run okX9_isWithinHopeless 3 (cs := []) (σ' := (24, [some (.ref 42), some (.int (nI s)), some (.int (nI U)), some (.int (nI q)), some (.int ((1 : Int32) <<< ((nI q) &&& 31)))], [.int ((nI s) &&& ((1 : Int32) <<< ((nI q) &&& 31)))], (SS b c), I, J, 0, 0)) rfl trivial ?_
        refine r_ifc okX9_isWithinHopeless rfl (fun (h24 : ¬ ((nI s) &&& ((1 : Int32) <<< ((nI q) &&& 31))) = (0 : Int32)) => ?_) (fun h240 => ?_)
        · refine r_run okX9_isWithinHopeless 2 (cs := []) (σ' := (2, [some (.ref 42), some (.int (nI s)), some (.int (nI U)), some (.int ((nI q) + 1)), some (.int ((1 : Int32) <<< ((nI q) &&& 31)))], [], (SS b c), I, J, 0, 0)) rfl trivial ?_
          rw [nI_eq1]
          have hf : (U.testBit q && (!s.testBit q && decide (¬ I 51 (s ||| 2 ^ q) = 0))) = false := by rw [show s.testBit q = true by cases z : s.testBit q with | false => exact absurd (ts.1.mpr z) h24 | true => rfl]; simp
          refine r_weak (L' := [some (.ref 42), some (.int (nI s)), some (.int (nI U)), some (.int (nI (q + 1))), none]) ⟨rfl, rfl, rfl, rfl, trivial⟩ ?_
          refine ih (q + 1) (by omega) ?_
          unfold whB at hw ⊢
          rw [any_s, hw, hf]; rfl
        · have h24 : ((nI s) &&& ((1 : Int32) <<< ((nI q) &&& 31))) = (0 : Int32) := Classical.not_not.mp h240
          refine r_run okX9_isWithinHopeless 6 (cs := [vp_in ((nI s) ||| ((1 : Int32) <<< ((nI q) &&& 31))) 256]) (σ' := (36, [some (.ref 42), some (.int (nI s)), some (.int (nI U)), some (.int (nI q)), some (.int ((1 : Int32) <<< ((nI q) &&& 31)))], [.int (I 51 (((nI s) ||| ((1 : Int32) <<< ((nI q) &&& 31))).toNatClampNeg))], (SS b c), I, J, 0, 0)) rfl ⟨(by rw [tor]; exact vin ts.2.2 (by decide)), trivial⟩ ?_
          simp only [tor, co]
          show Rj _ _ _ _ _ _ (36, [some (.ref 42), some (.int (nI s)), some (.int (nI U)), some (.int (nI q)), some (.int ((1 : Int32) <<< ((nI q) &&& 31)))], [.int (I 51 (s ||| 2 ^ q))], (SS b c), I, J, 0, 0)
          refine r_ifc okX9_isWithinHopeless rfl (fun (h36 : (I 51 (s ||| 2 ^ q)) = (0 : Int32)) => ?_) (fun (h36 : ¬ (I 51 (s ||| 2 ^ q)) = (0 : Int32)) => ?_)
          · refine r_run okX9_isWithinHopeless 2 (cs := []) (σ' := (2, [some (.ref 42), some (.int (nI s)), some (.int (nI U)), some (.int ((nI q) + 1)), some (.int ((1 : Int32) <<< ((nI q) &&& 31)))], [], (SS b c), I, J, 0, 0)) rfl trivial ?_
            rw [nI_eq1]
            have hf : (U.testBit q && (!s.testBit q && decide (¬ I 51 (s ||| 2 ^ q) = 0))) = false := by rw [decide_eq_false (fun z => z h36)]; simp
            refine r_weak (L' := [some (.ref 42), some (.int (nI s)), some (.int (nI U)), some (.int (nI (q + 1))), none]) ⟨rfl, rfl, rfl, rfl, trivial⟩ ?_
            refine ih (q + 1) (by omega) ?_
            unfold whB at hw ⊢
            rw [any_s, hw, hf]; rfl
          · refine r_run okX9_isWithinHopeless 1 (cs := []) (σ' := (40, [some (.ref 42), some (.int (nI s)), some (.int (nI U)), some (.int (nI q)), some (.int ((1 : Int32) <<< ((nI q) &&& 31)))], [.int 1], (SS b c), I, J, 0, 0)) rfl trivial ?_
            refine r_iret okX9_isWithinHopeless rfl rfl (by decide +kernel) (Nat.le_refl _) (Nat.le_refl _) ?_
            have hf : whB I U s (q + 1) = true := by
              unfold whB; rw [any_s, show (U.testBit q && (!s.testBit q && decide (¬ I 51 (s ||| 2 ^ q) = 0))) = true from ?_, Bool.or_true]
              rw [show U.testBit q = true by cases z : U.testBit q with | false => exact absurd (tU.1.mpr z) h17 | true => rfl, ts.1.mp h24, decide_eq_true h36]; rfl
            rw [wh_more hf (by omega)]
            exact ⟨rfl, rfl, rfl, rfl⟩
theorem o_isWithin (γ : GE) {b c : Bool} {I : AI} {J : AJ} {s U : Nat} (hs : s < 256) (hU : U < 256) : Ct γ mX9_isWithinHopeless 0 0 0 [.ref 42, .int (nI s), .int (nI U)] (SS b c) I J (rI (bi (whB I U s 8)) (SS b c) I J) := by
  refine ct_of okX9_isWithinHopeless (L := [some (.ref 42), some (.int (nI s)), some (.int (nI U)), none, none]) (Nat.le_of_ble_eq_true rfl) rfl ?_
  refine r_run okX9_isWithinHopeless 2 (cs := []) (σ' := (2, [some (.ref 42), some (.int (nI s)), some (.int (nI U)), some (.int 0), none], [], (SS b c), I, J, 0, 0)) rfl trivial ?_
  exact lp_wh γ hs hU 8 0 (by omega) rfl
theorem lp_us (γ : GE) {b c : Bool} {I : AI} {J : AJ} {m : Int32} {M n : Nat} {F : Nat → Bool} (hn : n < 2 ^ 30) (en : I 42 10 = nI n) (em : I 42 11 = m) (hM : M < 512) (eM : m = nI M) (hL : OLd I) : ∀ (j q : Nat) (J0 : AJ), q + j = n → kJ [45, 46] J J0 → cs J0 45 (rchN m F q) → cs J0 46 (metN m F q) → Rj γ mX9_usefulCounties 2 0 0 (fun rt S' I' J' => some (.int (cwp I (metN m F n) 96)) = rt ∧ (SS b c) = S' ∧ I = I' ∧ kJ [45, 46] J J') (24, [some (.ref 42), some (.int (nI q))], [], (SS b c), I, J0, 0, 0) := by
  intro j
  induction j with
  | zero =>
    intro q J0 hj hk h1 h2
    refine r_run okX9_usefulCounties 3 (cs := []) (σ' := (29, [some (.ref 42), some (.int (nI q))], [.int (I 42 10), .int (nI q)], (SS b c), I, J0, 0, 0)) rfl trivial ?_
    simp only [en]
    show Rj _ _ _ _ _ _ (29, [some (.ref 42), some (.int (nI q))], [.int (nI n), .int (nI q)], (SS b c), I, J0, 0, 0)
    refine r_icmp okX9_usefulCounties rfl (fun (h29 : (nI n) ≤ (nI q)) => ?_) (fun (h29 : ¬ (nI n) ≤ (nI q)) => ?_)
    · refine r_run okX9_usefulCounties 4 (cs := []) (σ' := (68, [some (.ref 42), some (.int (nI q))], [.ref 46, .ref 1], (SS b c), I, J0, 0, 0)) rfl trivial ?_
      refine r_callV okX9_usefulCounties okX2_countiesWithPeopleIn [.ref 46] [] 1 rfl rfl rfl kkX2_countiesWithPeopleIn rfl rfl (by decide) rfl rfl rfl (by decide) ⟨Nat.le_refl _, Nat.le_refl _⟩ (Nat.le_of_ble_eq_true rfl) (o_cwp γ hL rfl h2) (fun v1 S1 I1 J1 hp => ?_)
      obtain ⟨rfl, rfl, rfl, rfl⟩ := hp
      show Rj _ _ _ _ _ _ (71, [some (.ref 42), some (.int (nI q))], [.int (cwp I (metN m F q) 96)], (SS b c), I, J0, 0, 0)
      refine r_iret okX9_usefulCounties rfl rfl rfl (Nat.le_refl _) (Nat.le_refl _) ?_
      have e : q = n := by omega
      subst e
      exact ⟨rfl, rfl, rfl, hk⟩
    · exact absurd (nI_le (by omega) (by omega)) h29
  | succ j ih =>
    intro q J0 hj hk h1 h2
    refine r_run okX9_usefulCounties 3 (cs := []) (σ' := (29, [some (.ref 42), some (.int (nI q))], [.int (I 42 10), .int (nI q)], (SS b c), I, J0, 0, 0)) rfl trivial ?_
    simp only [en]
    show Rj _ _ _ _ _ _ (29, [some (.ref 42), some (.int (nI q))], [.int (nI n), .int (nI q)], (SS b c), I, J0, 0, 0)
    refine r_icmp okX9_usefulCounties rfl (fun (h29 : (nI n) ≤ (nI q)) => ?_) (fun (h29 : ¬ (nI n) ≤ (nI q)) => ?_)
    · exact absurd h29 (nI_ge (by omega) (by omega))
    · refine r_run okX9_usefulCounties 4 (cs := []) (σ' := (40, [some (.ref 42), some (.int (nI q))], [.int (I 42 11), .ref 45], (SS b c), I, J0, 0, 0)) rfl trivial ?_
      simp only [em]
      show Rj _ _ _ _ _ _ (40, [some (.ref 42), some (.int (nI q))], [.int m, .ref 45], (SS b c), I, J0, 0, 0)
      refine r_callV okX9_usefulCounties okX0_spread [.int m] [] 45 rfl rfl rfl kkX0_spread rfl rfl (by decide) rfl rfl rfl (by decide) ⟨Nat.le_refl _, Nat.le_refl _⟩ (Nat.le_of_ble_eq_true rfl) (a_spread γ rfl h1 hM eM) (fun v1 S1 I1 J1 hp => ?_)
      obtain ⟨rfl, rfl, rfl, J1, rfl, k1, c1⟩ := hp
      show Rj _ _ _ _ _ _ (43, [some (.ref 42), some (.int (nI q))], [], (SS b c), I, J1, 0, 0)
      refine r_run okX9_usefulCounties 4 (cs := []) (σ' := (51, [some (.ref 42), some (.int (nI q))], [.ref 45, .ref 46], (SS b c), I, J1, 0, 0)) rfl trivial ?_
      refine r_callV okX9_usefulCounties okX0_join [.ref 45] [] 46 rfl rfl rfl kkX0_join rfl rfl (by decide) rfl rfl rfl (by decide) ⟨Nat.le_refl _, Nat.le_refl _⟩ (Nat.le_of_ble_eq_true rfl) (a_join γ rfl (cs_k (k1 46 (by decide)) h2) rfl (by decide) c1) (fun v1 S1 I1 J1 hp => ?_)
      obtain ⟨rfl, rfl, rfl, J2, rfl, k2, c2⟩ := hp
      show Rj _ _ _ _ _ _ (54, [some (.ref 42), some (.int (nI q))], [], (SS b c), I, J2, 0, 0)
      refine r_run okX9_usefulCounties 2 (cs := []) (σ' := (24, [some (.ref 42), some (.int ((nI q) + 1))], [], (SS b c), I, J2, 0, 0)) rfl trivial ?_
      rw [nI_eq1]
      exact ih (q + 1) J2 (by omega) (kJ_t (kJ_t hk (kJ_m (by decide) k1)) (kJ_m (by decide) k2)) (cs_k (k2 45 (by decide)) c1) c2
theorem o_useful (γ : GE) {b c : Bool} {I : AI} {J : AJ} {m : Int32} {M n : Nat} {F : Nat → Bool} (hn : n < 2 ^ 30) (en : I 42 10 = nI n) (em : I 42 11 = m) (hM : M < 512) (eM : m = nI M) (hL : OLd I) (hF : cs J 43 F) : Ct γ mX9_usefulCounties 2 0 0 [.ref 42] (SS b c) I J (fun rt S' I' J' => some (.int (cwp I (metN m F n) 96)) = rt ∧ (SS b c) = S' ∧ I = I' ∧ kJ [45, 46] J J') := by
  refine ct_of okX9_usefulCounties (L := [some (.ref 42), none]) (Nat.le_of_ble_eq_true rfl) rfl ?_
  refine r_run okX9_usefulCounties 4 (cs := []) (σ' := (8, [some (.ref 42), none], [.ref 43, .ref 45], (SS b c), I, J, 0, 0)) rfl trivial ?_
  refine r_callV okX9_usefulCounties okX0_copy [.ref 43] [] 45 rfl rfl rfl kkX0_copy rfl rfl (by decide) rfl rfl rfl (by decide) ⟨Nat.le_refl _, Nat.le_refl _⟩ (Nat.le_of_ble_eq_true rfl) (a_copy γ rfl rfl hF) (fun v1 S1 I1 J1 hp => ?_)
  obtain ⟨rfl, rfl, rfl, J1, rfl, k1, c1⟩ := hp
  show Rj _ _ _ _ _ _ (11, [some (.ref 42), none], [], (SS b c), I, J1, 0, 0)
  refine r_run okX9_usefulCounties 4 (cs := []) (σ' := (19, [some (.ref 42), none], [.ref 43, .ref 46], (SS b c), I, J1, 0, 0)) rfl trivial ?_
  refine r_callV okX9_usefulCounties okX0_copy [.ref 43] [] 46 rfl rfl rfl kkX0_copy rfl rfl (by decide) rfl rfl rfl (by decide) ⟨Nat.le_refl _, Nat.le_refl _⟩ (Nat.le_of_ble_eq_true rfl) (a_copy γ rfl rfl (cs_k (k1 43 (by decide)) hF)) (fun v1 S1 I1 J1 hp => ?_)
  obtain ⟨rfl, rfl, rfl, J2, rfl, k2, c2⟩ := hp
  show Rj _ _ _ _ _ _ (22, [some (.ref 42), none], [], (SS b c), I, J2, 0, 0)
  refine r_run okX9_usefulCounties 2 (cs := []) (σ' := (24, [some (.ref 42), some (.int 0)], [], (SS b c), I, J2, 0, 0)) rfl trivial ?_
  exact lp_us γ hn en em hM eM hL n 0 J2 (by omega) (kJ_t (kJ_m (by decide) k1) (kJ_m (by decide) k2)) (cs_k (k2 45 (by decide)) c1) c2
theorem pthV_51 {I I0 : AI} (h : kI [51] I I0) (z : Int32) (n : Nat) (F : Nat → Bool) : pthV I0 z n F = pthV I z n F := by
  have e1 := h 101 (by decide); have e2 := h 102 (by decide); have e3 := h 100 (by decide)
  have ei : ∀ x, in0 I0 z x = in0 I z x := fun x => by unfold in0; rw [e1, e2]
  unfold pthV
  refine sumW_cg fun x _ => ⟨rfl, ?_⟩
  rw [wyN_G, wyN_G, e3, show in0 I0 z = in0 I z from funext ei]
/-- s lies within U -/
def inU (U s : Nat) : Bool := decide (nI s &&& (nI U ^^^ -1) = 0)
/-- the best box among those from q on that lie within U -/
def BBI (P : Int32 → Int64) (part : Int32) (v : Nat → Nat) (U q t : Nat) : Prop := t < 256 ∧ inU U t = true ∧ bxOK P part t = true ∧ ∀ s, q ≤ s → s < 256 → inU U s = true → bxOK P part s = true → betB v s t = false
theorem bet_iff {v : Nat → Nat} {s t : Nat} : betB v s t = true ↔ v s < v t ∨ (v s = v t ∧ (popN s < popN t ∨ (popN s = popN t ∧ s < t))) := by
  unfold betB
  by_cases e1 : v s = v t
  · rw [if_pos e1]
    by_cases p1 : popN s = popN t
    · rw [if_pos p1, decide_eq_true_eq]; omega
    · rw [if_neg p1, decide_eq_true_eq]; omega
  · rw [if_neg e1, decide_eq_true_eq]; omega
theorem betB_tr {v : Nat → Nat} {a s t : Nat} (h1 : betB v a t = false) (h2 : betB v s t = true) : betB v a s = false := by
  cases h : betB v a s with
  | false => rfl
  | true =>
    have q1 := bet_iff.mp h
    have q2 := bet_iff.mp h2
    have q3 : betB v a t = true := bet_iff.mpr (by omega)
    rw [h1] at q3; cases q3
set_option maxHeartbeats 2000000 in
theorem lp_bb (γ : GE) {b c : Bool} {I : AI} {J : AJ} {n U : Nat} {F : Nat → Bool} {v : Nat → Nat} {part : Int32} (hn : n < 2 ^ 30) (en : I 42 10 = nI n) (hT : TgOK I (I 100 6)) (hL : OLd I) (hM : MLand I) (hv : VP I v) (hU : U < 256) (hmo : ∀ s i, s < 256 → i < 8 → bxOK (fun z => pthV I z n F) part s = true → bxOK (fun z => pthV I z n F) part (s ||| 2 ^ i) = true) : ∀ (q t : Nat) (I0 : AI) (J0 : AJ), q ≤ 256 → kI [51] I I0 → kJ [44, 45, 46, 49, 50] J J0 → cs J0 43 F → BBI (fun z => pthV I z n F) part v U q t → (∀ s, q ≤ s → s < 256 → ¬ I0 51 s = 0 → bxOK (fun z => pthV I z n F) part s = false) → Rj γ mX9_bestBox 4 0 0 (fun rt S' I' J' => (∃ t, some (.int (nI t)) = rt ∧ BBI (fun z => pthV I z n F) part v U 0 t) ∧ (SS b c) = S' ∧ kI [51] I I' ∧ kJ [44, 45, 46, 49, 50] J J') (20, [some (.ref 42), some (.int part), some (.long (pthV I 255 n F)), none, some (.int (nI U)), some (.int (nI t)), some (.int ((nI q) - 1))], [], (SS b c), I0, J0, 0, 0) := by
  intro q
  induction q with
  | zero =>
    intro t I0 J0 hq hk hJ hF hB hh
    refine r_run okX9_bestBox 1 (cs := []) (σ' := (22, [some (.ref 42), some (.int part), some (.long (pthV I 255 n F)), none, some (.int (nI U)), some (.int (nI t)), some (.int ((nI 0) - 1))], [.int ((nI 0) - 1)], (SS b c), I0, J0, 0, 0)) rfl trivial ?_
    refine r_ifc okX9_bestBox rfl (fun (h22 : ((nI 0) - 1) < (0 : Int32)) => ?_) (fun (h22 : ¬ ((nI 0) - 1) < (0 : Int32)) => ?_)
    · refine r_run okX9_bestBox 1 (cs := []) (σ' := (128, [some (.ref 42), some (.int part), some (.long (pthV I 255 n F)), none, some (.int (nI U)), some (.int (nI t)), some (.int ((nI 0) - 1))], [.int (nI t)], (SS b c), I0, J0, 0, 0)) rfl trivial ?_
      refine r_iret okX9_bestBox rfl rfl rfl (Nat.le_refl _) (Nat.le_refl _) ?_
      exact ⟨⟨t, rfl, hB⟩, rfl, hk, hJ⟩
    · exact absurd (by decide) h22
  | succ q ih =>
    intro t I0 J0 hq hk hJ hF hB hh
    have cq : (nI q).toNatClampNeg = q := nI_clamp (by omega)
    refine r_run okX9_bestBox 1 (cs := []) (σ' := (22, [some (.ref 42), some (.int part), some (.long (pthV I 255 n F)), none, some (.int (nI U)), some (.int (nI t)), some (.int ((nI (q + 1)) - 1))], [.int ((nI (q + 1)) - 1)], (SS b c), I0, J0, 0, 0)) rfl trivial ?_
    simp only [nI_pred]
    show Rj _ _ _ _ _ _ (22, [some (.ref 42), some (.int part), some (.long (pthV I 255 n F)), none, some (.int (nI U)), some (.int (nI t)), some (.int (nI q))], [.int (nI q)], (SS b c), I0, J0, 0, 0)
    refine r_ifc okX9_bestBox rfl (fun (h22 : (nI q) < (0 : Int32)) => ?_) (fun (h22 : ¬ (nI q) < (0 : Int32)) => ?_)
    · exact absurd h22 (nI_pos (by omega))
    · refine r_run okX9_bestBox 10 (cs := [vp_in (nI q) 256, bz 0]) (σ' := (40, [some (.ref 42), some (.int part), some (.long (pthV I 255 n F)), none, some (.int (nI U)), some (.int (nI t)), some (.int (nI q))], [.int ((nI q) &&& ((nI U) ^^^ (-1)))], (SS b c), (upI I0 51 ((nI q).toNatClampNeg) 0), J0, 0, 0)) rfl ⟨(vin (by omega) (by decide)), (Or.inl rfl), trivial⟩ ?_
      simp only [cq]
      show Rj _ _ _ _ _ _ (40, [some (.ref 42), some (.int part), some (.long (pthV I 255 n F)), none, some (.int (nI U)), some (.int (nI t)), some (.int (nI q))], [.int ((nI q) &&& ((nI U) ^^^ (-1)))], (SS b c), (upI I0 51 q 0), J0, 0, 0)
      refine r_ifc okX9_bestBox rfl (fun (h40 : ((nI q) &&& ((nI U) ^^^ (-1))) = (0 : Int32)) => ?_) (fun (h40 : ¬ ((nI q) &&& ((nI U) ^^^ (-1))) = (0 : Int32)) => ?_)
      · have hk2 : kI [51] I (upI (upI I0 51 q 0) 51 q (bi (whB (upI I0 51 q 0) U q 8))) := kI_t hk (kI_t (kI_up (by decide)) (kI_up (by decide)))
        have fl : (upI (upI I0 51 q 0) 51 q (bi (whB (upI I0 51 q 0) U q 8))) 51 q = bi (whB (upI I0 51 q 0) U q 8) := by simp [upI]
        have hh2 : ∀ s, q + 1 ≤ s → (upI (upI I0 51 q 0) 51 q (bi (whB (upI I0 51 q 0) U q 8))) 51 s = I0 51 s := fun s hs => by simp [upI, show ¬ s = q by omega]
        have whs : whB (upI I0 51 q 0) U q 8 = true → bxOK (fun z => pthV I z n F) part q = false := by
          intro hw
          unfold whB at hw
          rw [List.any_eq_true] at hw
          obtain ⟨i, hi, hw⟩ := hw
          rw [List.mem_range] at hi
          simp only [Bool.and_eq_true, Bool.not_eq_true', decide_eq_true_eq] at hw
          obtain ⟨w1, w2, w3⟩ := hw
          have hgt : q < q ||| 2 ^ i := by
            refine Nat.lt_of_le_of_ne Nat.left_le_or (fun z => ?_)
            have := congrArg (fun y => y.testBit i) z
            simp [w2] at this
          have e : (upI I0 51 q 0) 51 (q ||| 2 ^ i) = I0 51 (q ||| 2 ^ i) := by simp [upI, show ¬ (q ||| 2 ^ i) = q by omega]
          rw [e] at w3
          have h3 := hh _ (by omega) (tb_and q (by omega) i hi).2.2 w3
          cases z : bxOK (fun z => pthV I z n F) part q with
          | false => rfl
          | true => rw [hmo q i (by omega) hi z] at h3; cases h3
        refine r_run okX9_bestBox 6 (cs := []) (σ' := (57, [some (.ref 42), some (.int part), some (.long (pthV I 255 n F)), none, some (.int (nI U)), some (.int (nI t)), some (.int (nI q))], [.int (nI U), .int (nI q), .ref 42, .int (nI q), .ref 51], (SS b c), (upI I0 51 q 0), J0, 0, 0)) rfl trivial ?_
        refine r_callV okX9_bestBox okX9_isWithinHopeless [.int (nI q), .int (nI U)] [.int (nI q), .ref 51] 42 rfl rfl rfl kkX9_isWithinHopeless rfl rfl (by decide) rfl rfl rfl (by decide) ⟨Nat.le_refl _, Nat.le_refl _⟩ (Nat.le_of_ble_eq_true rfl) (o_isWithin γ (s := q) (U := U) (by omega) hU) (fun v1 S1 I1 J1 hp => ?_)
        obtain ⟨rfl, rfl, rfl, rfl⟩ := hp
        show Rj _ _ _ _ _ _ (60, [some (.ref 42), some (.int part), some (.long (pthV I 255 n F)), none, some (.int (nI U)), some (.int (nI t)), some (.int (nI q))], [.int (bi (whB (upI I0 51 q 0) U q 8)), .int (nI q), .ref 51], (SS b c), (upI I0 51 q 0), J0, 0, 0)
        refine r_run okX9_bestBox 5 (cs := [vp_in (nI q) 256, bz (bi (whB (upI I0 51 q 0) U q 8)), vp_in (nI q) 256]) (σ' := (68, [some (.ref 42), some (.int part), some (.long (pthV I 255 n F)), none, some (.int (nI U)), some (.int (nI t)), some (.int (nI q))], [.int ((upI (upI I0 51 q 0) 51 ((nI q).toNatClampNeg) (bi (whB (upI I0 51 q 0) U q 8))) 51 ((nI q).toNatClampNeg))], (SS b c), (upI (upI I0 51 q 0) 51 ((nI q).toNatClampNeg) (bi (whB (upI I0 51 q 0) U q 8))), J0, 0, 0)) rfl ⟨(vin (by omega) (by decide)), (bi_bz _), (vin (by omega) (by decide)), trivial⟩ ?_
        simp only [cq, fl]
        show Rj _ _ _ _ _ _ (68, [some (.ref 42), some (.int part), some (.long (pthV I 255 n F)), none, some (.int (nI U)), some (.int (nI t)), some (.int (nI q))], [.int (bi (whB (upI I0 51 q 0) U q 8))], (SS b c), (upI (upI I0 51 q 0) 51 q (bi (whB (upI I0 51 q 0) U q 8))), J0, 0, 0)
        refine r_ifc okX9_bestBox rfl (fun (h68 : ¬ (bi (whB (upI I0 51 q 0) U q 8)) = (0 : Int32)) => ?_) (fun h680 => ?_)
        · refine r_run okX9_bestBox 2 (cs := []) (σ' := (20, [some (.ref 42), some (.int part), some (.long (pthV I 255 n F)), none, some (.int (nI U)), some (.int (nI t)), some (.int ((nI q) + (-1)))], [], (SS b c), (upI (upI I0 51 q 0) 51 q (bi (whB (upI I0 51 q 0) U q 8))), J0, 0, 0)) rfl trivial ?_
          rw [add_m1]
          have hw := bi_n0.mp h68
          refine ih t (upI (upI I0 51 q 0) 51 q (bi (whB (upI I0 51 q 0) U q 8))) J0 (by omega) hk2 hJ hF ⟨hB.1, hB.2.1, hB.2.2.1, fun s h1 h2 h3 h4 => if e : s = q then by subst e; rw [whs hw] at h4; cases h4 else hB.2.2.2 s (by omega) h2 h3 h4⟩ (fun s h1 h2 h3 => ?_)
          by_cases e : s = q
          · rw [e]; exact whs hw
          · rw [hh2 s (by omega)] at h3; exact hh s (by omega) h2 h3
        · have h68 : (bi (whB (upI I0 51 q 0) U q 8)) = (0 : Int32) := Classical.not_not.mp h680
          refine r_run okX9_bestBox 3 (cs := []) (σ' := (76, [some (.ref 42), some (.int part), some (.long (pthV I 255 n F)), none, some (.int (nI U)), some (.int (nI t)), some (.int (nI q))], [.int (nI t), .int (nI q), .ref 42], (SS b c), (upI (upI I0 51 q 0) 51 q (bi (whB (upI I0 51 q 0) U q 8))), J0, 0, 0)) rfl trivial ?_
          refine r_callV okX9_bestBox okX9_isBetter [.int (nI q), .int (nI t)] [] 42 rfl rfl rfl kkX9_isBetter rfl rfl (by decide) rfl rfl rfl (by decide) ⟨Nat.le_refl _, Nat.le_refl _⟩ (Nat.le_of_ble_eq_true rfl) (o_isBetter γ (v := v) (s := q) (t := t) (fun z hz => by rw [show (upI (upI I0 51 q 0) 51 q (bi (whB (upI I0 51 q 0) U q 8))) 6 = I 6 from hk2 6 (by decide)]; exact hv z hz) (by omega) hB.1) (fun v1 S1 I1 J1 hp => ?_)
          obtain ⟨rfl, rfl, rfl, rfl⟩ := hp
          show Rj _ _ _ _ _ _ (79, [some (.ref 42), some (.int part), some (.long (pthV I 255 n F)), none, some (.int (nI U)), some (.int (nI t)), some (.int (nI q))], [.int (bi (betB v q t))], (SS b c), (upI (upI I0 51 q 0) 51 q (bi (whB (upI I0 51 q 0) U q 8))), J0, 0, 0)
          refine r_ifc okX9_bestBox rfl (fun (h79 : ¬ (bi (betB v q t)) = (0 : Int32)) => ?_) (fun h790 => ?_)
          · refine r_run okX9_bestBox 3 (cs := []) (σ' := (89, [some (.ref 42), some (.int part), some (.long (pthV I 255 n F)), none, some (.int (nI U)), some (.int (nI t)), some (.int (nI q))], [.int (nI q), .ref 42, .long (pthV I 255 n F)], (SS b c), (upI (upI I0 51 q 0) 51 q (bi (whB (upI I0 51 q 0) U q 8))), J0, 0, 0)) rfl trivial ?_
            refine r_callV okX9_bestBox okX9_within [.int (nI q)] [.long (pthV I 255 n F)] 42 rfl rfl rfl kkX9_within rfl rfl (by decide) rfl rfl rfl (by decide) ⟨Nat.le_refl _, Nat.le_refl _⟩ (Nat.le_of_ble_eq_true rfl) (o_within γ (n := n) hn (by rw [hk2 42 (by decide)]; exact en) (TgOK_k (hk2 47 (by decide)) (hk2 48 (by decide)) (by rw [hk2 100 (by decide)]; exact hT)) hF (fun x hx => by rw [hk2 2 (by decide), hk2 3 (by decide), hk2 4 (by decide), hk2 101 (by decide), hk2 102 (by decide), hk2 103 (by decide)]; exact hL x hx) (fun x hx => by rw [hk2 101 (by decide), hk2 102 (by decide), hk2 103 (by decide), hk2 104 (by decide)]; exact hM x hx) (nI q)) (fun v1 S1 I1 J1 hp => ?_)
            obtain ⟨rfl, rfl, rfl, k5⟩ := hp
            obtain ⟨J5, hJ5⟩ : ∃ z, z = J1 := ⟨_, rfl⟩
            subst hJ5
            show Rj _ _ _ _ _ _ (92, [some (.ref 42), some (.int part), some (.long (pthV I 255 n F)), none, some (.int (nI U)), some (.int (nI t)), some (.int (nI q))], [.long (pthV (upI (upI I0 51 q 0) 51 q (bi (whB (upI I0 51 q 0) U q 8))) (nI q) n F), .long (pthV I 255 n F)], (SS b c), (upI (upI I0 51 q 0) 51 q (bi (whB (upI I0 51 q 0) U q 8))), J5, 0, 0)
            simp only [pthV_51 hk2]
            show Rj _ _ _ _ _ _ (92, [some (.ref 42), some (.int part), some (.long (pthV I 255 n F)), none, some (.int (nI U)), some (.int (nI t)), some (.int (nI q))], [.long (pthV I (nI q) n F), .long (pthV I 255 n F)], (SS b c), (upI (upI I0 51 q 0) 51 q (bi (whB (upI I0 51 q 0) U q 8))), J5, 0, 0)
            refine r_run okX9_bestBox 8 (cs := []) (σ' := (102, [some (.ref 42), some (.int part), some (.long (pthV I 255 n F)), none, some (.int (nI U)), some (.int (nI t)), some (.int (nI q))], [.int (lg_cmp (((pthV I 255 n F) - (pthV I (nI q) n F)) * 1000) (part.toInt64 * (pthV I 255 n F)))], (SS b c), (upI (upI I0 51 q 0) 51 q (bi (whB (upI I0 51 q 0) U q 8))), J5, 0, 0)) rfl trivial ?_
            refine r_ifc okX9_bestBox rfl (fun (h102 : (0 : Int32) < (lg_cmp (((pthV I 255 n F) - (pthV I (nI q) n F)) * 1000) (part.toInt64 * (pthV I 255 n F)))) => ?_) (fun (h102 : ¬ (0 : Int32) < (lg_cmp (((pthV I 255 n F) - (pthV I (nI q) n F)) * 1000) (part.toInt64 * (pthV I 255 n F)))) => ?_)
            · refine r_run okX9_bestBox 7 (cs := [vp_in (nI q) 256, bz 1]) (σ' := (20, [some (.ref 42), some (.int part), some (.long (pthV I 255 n F)), none, some (.int (nI U)), some (.int (nI t)), some (.int ((nI q) + (-1)))], [], (SS b c), (upI (upI (upI I0 51 q 0) 51 q (bi (whB (upI I0 51 q 0) U q 8))) 51 ((nI q).toNatClampNeg) 1), J5, 0, 0)) rfl ⟨(vin (by omega) (by decide)), (Or.inr rfl), trivial⟩ ?_
              simp only [cq]
              show Rj _ _ _ _ _ _ (20, [some (.ref 42), some (.int part), some (.long (pthV I 255 n F)), none, some (.int (nI U)), some (.int (nI t)), some (.int ((nI q) + (-1)))], [], (SS b c), (upI (upI (upI I0 51 q 0) 51 q (bi (whB (upI I0 51 q 0) U q 8))) 51 q 1), J5, 0, 0)
              rw [add_m1]
              have hno : bxOK (fun z => pthV I z n F) part q = false := decide_eq_false (Int32.not_le.mpr h102)
              refine ih t (upI (upI (upI I0 51 q 0) 51 q (bi (whB (upI I0 51 q 0) U q 8))) 51 q 1) J5 (by omega) (kI_t hk2 (kI_up (by decide))) (kJ_t hJ (kJ_m (by decide) k5)) (cs_k (k5 43 (by decide)) hF) ⟨hB.1, hB.2.1, hB.2.2.1, fun s h1 h2 h3 h4 => if e : s = q then by subst e; rw [hno] at h4; cases h4 else hB.2.2.2 s (by omega) h2 h3 h4⟩ (fun s h1 h2 h3 => ?_)
              by_cases e : s = q
              · rw [e]; exact hno
              · rw [show (upI (upI (upI I0 51 q 0) 51 q (bi (whB (upI I0 51 q 0) U q 8))) 51 q 1) 51 s = (upI (upI I0 51 q 0) 51 q (bi (whB (upI I0 51 q 0) U q 8))) 51 s by simp [upI, e], hh2 s (by omega)] at h3; exact hh s (by omega) h2 h3
            · refine r_run okX9_bestBox 5 (cs := []) (σ' := (20, [some (.ref 42), some (.int part), some (.long (pthV I 255 n F)), none, some (.int (nI U)), some (.int (nI q)), some (.int ((nI q) + (-1)))], [], (SS b c), (upI (upI I0 51 q 0) 51 q (bi (whB (upI I0 51 q 0) U q 8))), J5, 0, 0)) rfl trivial ?_
              rw [add_m1]
              have hyes : bxOK (fun z => pthV I z n F) part q = true := decide_eq_true (Int32.not_lt.mp h102)
              have hbt := bi_n0.mp h79
              refine ih q (upI (upI I0 51 q 0) 51 q (bi (whB (upI I0 51 q 0) U q 8))) J5 (by omega) hk2 (kJ_t hJ (kJ_m (by decide) k5)) (cs_k (k5 43 (by decide)) hF) ⟨by omega, decide_eq_true h40, hyes, fun s h1 h2 h3 h4 => ?_⟩ (fun s h1 h2 h3 => ?_)
              · by_cases e : s = q
                · rw [e]; unfold betB; simp
                · exact betB_tr (hB.2.2.2 s (by omega) h2 h3 h4) hbt
              · by_cases e : s = q
                · rw [e, fl, bi_0.mp h68] at h3; exact absurd rfl h3
                · rw [hh2 s (by omega)] at h3; exact hh s (by omega) h2 h3
          · have h79 : (bi (betB v q t)) = (0 : Int32) := Classical.not_not.mp h790
            refine r_run okX9_bestBox 3 (cs := []) (σ' := (20, [some (.ref 42), some (.int part), some (.long (pthV I 255 n F)), none, some (.int (nI U)), some (.int (nI t)), some (.int ((nI q) + (-1)))], [], (SS b c), (upI (upI I0 51 q 0) 51 q (bi (whB (upI I0 51 q 0) U q 8))), J0, 0, 0)) rfl trivial ?_
            rw [add_m1]
            refine ih t (upI (upI I0 51 q 0) 51 q (bi (whB (upI I0 51 q 0) U q 8))) J0 (by omega) hk2 hJ hF ⟨hB.1, hB.2.1, hB.2.2.1, fun s h1 h2 h3 h4 => if e : s = q then by subst e; exact bi_0.mp h79 else hB.2.2.2 s (by omega) h2 h3 h4⟩ (fun s h1 h2 h3 => ?_)
            by_cases e : s = q
            · rw [e, fl, bi_0.mp h68] at h3; exact absurd rfl h3
            · rw [hh2 s (by omega)] at h3; exact hh s (by omega) h2 h3
      · skip
        refine r_run okX9_bestBox 3 (cs := []) (σ' := (20, [some (.ref 42), some (.int part), some (.long (pthV I 255 n F)), none, some (.int (nI U)), some (.int (nI t)), some (.int ((nI q) + (-1)))], [], (SS b c), (upI I0 51 q 0), J0, 0, 0)) rfl trivial ?_
        rw [add_m1]
        refine ih t (upI I0 51 q 0) J0 (by omega) (kI_t hk (kI_up (by decide))) hJ hF ⟨hB.1, hB.2.1, hB.2.2.1, fun s h1 h2 h3 h4 => if e : s = q then by subst e; exact absurd (of_decide_eq_true h3) h40 else hB.2.2.2 s (by omega) h2 h3 h4⟩ (fun s h1 h2 h3 => ?_)
        by_cases e : s = q
        · rw [e] at h3; exact absurd (by simp [upI]) h3
        · exact hh s (by omega) h2 (by simpa [upI, e] using h3)
theorem o_bestBox (γ : GE) {b c : Bool} {I : AI} {J : AJ} {n U : Nat} {F : Nat → Bool} {v : Nat → Nat} {part : Int32} (hn : n < 2 ^ 30) (en : I 42 10 = nI n) (hT : TgOK I (I 100 6)) (hL : OLd I) (hM : MLand I) (hv : VP I v) (hU : U < 256) (hmo : ∀ s i, s < 256 → i < 8 → bxOK (fun z => pthV I z n F) part s = true → bxOK (fun z => pthV I z n F) part (s ||| 2 ^ i) = true) {M : Nat} (hM5 : M < 512) (eM : I 100 6 = nI M) (em : I 42 11 = I 100 6) (hF : cs J 43 F) (eU : cwp I (metN (I 100 6) F n) 96 = nI U) (hUU : inU U U = true) (hokU : bxOK (fun z => pthV I z n F) part U = true) : Ct γ mX9_bestBox 4 0 0 [.ref 42, .int part] (SS b c) I J (fun rt S' I' J' => (∃ t, some (.int (nI t)) = rt ∧ BBI (fun z => pthV I z n F) part v U 0 t) ∧ (SS b c) = S' ∧ kI [51] I I' ∧ kJ [44, 45, 46, 49, 50] J J') := by
  refine ct_of okX9_bestBox (L := [some (.ref 42), some (.int part), none, none, none, none, none]) (Nat.le_of_ble_eq_true rfl) rfl ?_
  refine r_run okX9_bestBox 1 (cs := []) (σ' := (1, [some (.ref 42), some (.int part), none, none, none, none, none], [.ref 42], (SS b c), I, J, 0, 0)) rfl trivial ?_
  refine r_callV okX9_bestBox okX9_all [] [] 42 rfl rfl rfl kkX9_all rfl rfl (by decide) rfl rfl rfl (by decide) ⟨Nat.le_refl _, Nat.le_refl _⟩ (Nat.le_of_ble_eq_true rfl) (o_all γ hn en hT hF hL hM) (fun v1 S1 I1 J1 hp => ?_)
  obtain ⟨rfl, rfl, rfl, k3⟩ := hp
  obtain ⟨J3, hJ3⟩ : ∃ z, z = J1 := ⟨_, rfl⟩
  subst hJ3
  show Rj _ _ _ _ _ _ (4, [some (.ref 42), some (.int part), none, none, none, none, none], [.long (pthV I 255 n F)], (SS b c), I, J3, 0, 0)
  refine r_run okX9_bestBox 2 (cs := []) (σ' := (6, [some (.ref 42), some (.int part), some (.long (pthV I 255 n F)), none, none, none, none], [.ref 42], (SS b c), I, J3, 0, 0)) rfl trivial ?_
  refine r_callV okX9_bestBox okX9_usefulCounties [] [] 42 rfl rfl rfl kkX9_usefulCounties rfl rfl (by decide) rfl rfl rfl (by decide) ⟨Nat.le_refl _, Nat.le_refl _⟩ (Nat.le_of_ble_eq_true rfl) (o_useful γ hn en em hM5 eM hL (cs_k (k3 43 (by decide)) hF)) (fun v1 S1 I1 J1 hp => ?_)
  obtain ⟨rfl, rfl, rfl, k4⟩ := hp
  obtain ⟨J4, hJ4⟩ : ∃ z, z = J1 := ⟨_, rfl⟩
  subst hJ4
  show Rj _ _ _ _ _ _ (9, [some (.ref 42), some (.int part), some (.long (pthV I 255 n F)), none, none, none, none], [.int (cwp I (metN (I 100 6) F n) 96)], (SS b c), I, J4, 0, 0)
  simp only [eU]
  show Rj _ _ _ _ _ _ (9, [some (.ref 42), some (.int part), some (.long (pthV I 255 n F)), none, none, none, none], [.int (nI U)], (SS b c), I, J4, 0, 0)
  refine r_run okX9_bestBox 5 (cs := []) (σ' := (20, [some (.ref 42), some (.int part), some (.long (pthV I 255 n F)), none, some (.int (nI U)), some (.int (nI U)), some (.int 255)], [], (SS b c), I, J4, 0, 0)) rfl trivial ?_
  have h := lp_bb γ (b := b) (c := c) (J := J) hn en hT hL hM hv hU hmo 256 U I J4 (Nat.le_refl _) kI_r (kJ_t (kJ_m (by decide) k3) (kJ_m (by decide) k4)) (cs_k (k4 43 (by decide)) (cs_k (k3 43 (by decide)) hF)) ⟨hU, hUU, hokU, fun s h1 h2 => absurd h2 (by omega)⟩ (fun s h1 h2 => absurd h2 (by omega))
  exact h
