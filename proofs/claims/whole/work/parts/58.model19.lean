/-! ===== the reference: feed, end, fault, on ===== -/
def onN (I : AI) (z : Bool) : AI := upI I 100 44 (bi z)
def endB (I : AI) (n : Int32) : Bool := inB n 0 (I 100 23)
def endN (I : AI) (n : Int32) : AI := if endB I n then upI I 100 23 n else I
def fauV (I : AI) (w : Int32) : Int32 := if w = 0 then I 100 42 else if w = 1 then I 100 43 else -1
theorem c_Mon (γ : GE) {b c : Bool} {I : AI} {J : AJ} (hT : I 100 0 = 0) (z : Bool) : Ct γ mX12_on 0 0 0 [.ref 100, .int (bi z)] (SS b c) I J (rV (SS b c) (onN I z) J) := by
  have ht := told0 hT
  refine ct_of okX12_on (L := [some (.ref 100), some (.int (bi z))]) (Nat.le_of_ble_eq_true rfl) rfl ?_
  refine r_run okX12_on 6 (cs := [bz (bi z)]) (σ' := (10, [some (.ref 100), some (.int (bi z))], [], (SS b c), (upI (upI I 100 0 0) 100 44 (bi z)), J, 0, 0)) rfl ⟨(bi_bz z), trivial⟩ ?_
  simp only [ht]
  show Rj _ _ _ _ _ _ (10, [some (.ref 100), some (.int (bi z))], [], (SS b c), (upI I 100 44 (bi z)), J, 0, 0)
  refine r_vret okX12_on rfl rfl (Nat.le_refl _) (Nat.le_refl _) ?_
  exact ⟨rfl, rfl, rfl, rfl⟩
theorem c_Mend (γ : GE) {b c : Bool} {I : AI} {J : AJ} (hT : I 100 0 = 0) (n : Int32) : Ct γ mX12_end 1 0 0 [.ref 100, .int n] (SS b c) I J (rI (bi (endB I n)) (SS b c) (endN I n) J) := by
  have ht := told0 hT
  refine ct_of okX12_end (L := [some (.ref 100), some (.int n)]) (Nat.le_of_ble_eq_true rfl) rfl ?_
  refine r_run okX12_end 8 (cs := []) (σ' := (12, [some (.ref 100), some (.int n)], [.int (I 100 23), .int 0, .int n, .ref 100], (SS b c), (upI I 100 0 0), J, 0, 0)) rfl trivial ?_
  simp only [ht]
  show Rj _ _ _ _ _ _ (12, [some (.ref 100), some (.int n)], [.int (I 100 23), .int 0, .int n, .ref 100], (SS b c), I, J, 0, 0)
  refine r_callV okX12_end okX12_isIn [.int n, .int 0, .int (I 100 23)] [] 100 rfl rfl rfl kkX12_isIn rfl rfl (by decide) rfl rfl rfl (by decide) ⟨Nat.le_refl _, Nat.le_refl _⟩ (Nat.le_of_ble_eq_true rfl) (c_isIn γ n 0 (I 100 23)) (fun v1 S1 I1 J1 hp => ?_)
  obtain ⟨rfl, rfl, rfl, rfl⟩ := hp
  show Rj _ _ _ _ _ _ (15, [some (.ref 100), some (.int n)], [.int (bi (inB n 0 (I 100 23)))], (SS b c), I, J, 0, 0)
  refine r_ifc okX12_end rfl (fun (h15 : ¬ (bi (inB n 0 (I 100 23))) = (0 : Int32)) => ?_) (fun h150 => ?_)
  · have h15s := bi_n0.mp h15
    refine r_run okX12_end 4 (cs := []) (σ' := (26, [some (.ref 100), some (.int n)], [.int 1], (SS b c), (upI I 100 23 n), J, 0, 0)) rfl trivial ?_
    refine r_iret okX12_end rfl rfl (by decide +kernel) (Nat.le_refl _) (Nat.le_refl _) ?_
    exact ⟨by simp [endB, bi_t, bi_f, *], rfl, by simp [endN, endB, *], rfl⟩
  · have h15 : (bi (inB n 0 (I 100 23))) = (0 : Int32) := Classical.not_not.mp h150
    have h15s := bi_0.mp h15
    refine r_run okX12_end 1 (cs := []) (σ' := (19, [some (.ref 100), some (.int n)], [.int 0], (SS b c), I, J, 0, 0)) rfl trivial ?_
    refine r_iret okX12_end rfl rfl (by decide +kernel) (Nat.le_refl _) (Nat.le_refl _) ?_
    exact ⟨by simp [endB, bi_t, bi_f, *], rfl, by simp [endN, endB, *], rfl⟩
theorem c_Mfault (γ : GE) {b c : Bool} {I : AI} {J : AJ} (hT : I 100 0 = 0) (w : Int32) : Ct γ mX12_fault 0 0 0 [.ref 100, .int w] (SS b c) I J (rI (fauV I w) (SS b c) I J) := by
  have ht := told0 hT
  refine ct_of okX12_fault (L := [some (.ref 100), some (.int w)]) (Nat.le_of_ble_eq_true rfl) rfl ?_
  refine r_run okX12_fault 4 (cs := []) (σ' := (6, [some (.ref 100), some (.int w)], [.int w], (SS b c), (upI I 100 0 0), J, 0, 0)) rfl trivial ?_
  simp only [ht]
  show Rj _ _ _ _ _ _ (6, [some (.ref 100), some (.int w)], [.int w], (SS b c), I, J, 0, 0)
  refine r_ifc okX12_fault rfl (fun (h6 : ¬ w = (0 : Int32)) => ?_) (fun h60 => ?_)
  · refine r_run okX12_fault 2 (cs := []) (σ' := (18, [some (.ref 100), some (.int w)], [.int 1, .int w], (SS b c), I, J, 0, 0)) rfl trivial ?_
    refine r_icmp okX12_fault rfl (fun (h18 : ¬ w = (1 : Int32)) => ?_) (fun h180 => ?_)
    · refine r_run okX12_fault 1 (cs := []) (σ' := (29, [some (.ref 100), some (.int w)], [.int (-1)], (SS b c), I, J, 0, 0)) rfl trivial ?_
      refine r_iret okX12_fault rfl rfl rfl (Nat.le_refl _) (Nat.le_refl _) ?_
      exact ⟨by simp [fauV, *], rfl, rfl, rfl⟩
    · have h18 : w = (1 : Int32) := Classical.not_not.mp h180
      refine r_run okX12_fault 3 (cs := []) (σ' := (29, [some (.ref 100), some (.int w)], [.int (I 100 43)], (SS b c), I, J, 0, 0)) rfl trivial ?_
      refine r_iret okX12_fault rfl rfl rfl (Nat.le_refl _) (Nat.le_refl _) ?_
      exact ⟨by simp [fauV, *], rfl, rfl, rfl⟩
  · have h6 : w = (0 : Int32) := Classical.not_not.mp h60
    refine r_run okX12_fault 3 (cs := []) (σ' := (29, [some (.ref 100), some (.int w)], [.int (I 100 42)], (SS b c), I, J, 0, 0)) rfl trivial ?_
    refine r_iret okX12_fault rfl rfl rfl (Nat.le_refl _) (Nat.le_refl _) ?_
    exact ⟨by simp [fauV, *], rfl, rfl, rfl⟩
/-- byte i of four, as the reference cuts it -/
def byM (v : Int32) (i : Nat) : Int32 := match i with
  | 0 => (v >>> ((24 : Int32) &&& 31)) &&& 255
  | 1 => (v >>> ((16 : Int32) &&& 31)) &&& 255
  | 2 => (v >>> ((8 : Int32) &&& 31)) &&& 255
  | _ => (v >>> ((0 : Int32) &&& 31)) &&& 255
/-- the tape with four bytes more from place k on -/
def tp4 (I : AI) (k : Nat) (v : Int32) : AI := fun a b => if a = 118 then (if k ≤ b ∧ b < k + 4 then byM v (b - k) else I a b) else if a = 100 then (if b = 23 then nI (k + 4) else I a b) else I a b
theorem tp4_eq {I : AI} {k : Nat} {v : Int32} : upI (upI (upI (upI (upI (upI (upI (upI I 118 k (byM v 0)) 100 23 (nI (k + 1))) 118 (k + 1) (byM v 1)) 100 23 (nI (k + 1 + 1))) 118 (k + 1 + 1) (byM v 2)) 100 23 (nI (k + 1 + 1 + 1))) 118 (k + 1 + 1 + 1) (byM v 3)) 100 23 (nI (k + 1 + 1 + 1 + 1)) = tp4 I k v := by
  funext a b
  simp only [upI, tp4]
  by_cases h : a = 118
  · subst h
    simp only [show ¬ (118 : Nat) = 100 by decide, if_true, if_false]
    by_cases h3 : b = k + 1 + 1 + 1
    · subst h3; rw [if_pos rfl, if_pos (by omega), show k + 1 + 1 + 1 - k = 3 by omega]
    · rw [if_neg h3]
      by_cases h2 : b = k + 1 + 1
      · subst h2; rw [if_pos rfl, if_pos (by omega), show k + 1 + 1 - k = 2 by omega]
      · rw [if_neg h2]
        by_cases h1 : b = k + 1
        · subst h1; rw [if_pos rfl, if_pos (by omega), show k + 1 - k = 1 by omega]
        · rw [if_neg h1]
          by_cases h0 : b = k
          · subst h0; rw [if_pos rfl, if_pos (by omega), Nat.sub_self]
          · rw [if_neg h0, if_neg (by omega)]
  · by_cases h1 : a = 100
    · subst h1
      simp only [show ¬ (100 : Nat) = 118 by decide, if_true, if_false]
      split <;> rfl
    · simp [h, h1]
theorem c_puts (γ : GE) {b c : Bool} {I : AI} {J : AJ} (k : Nat) (v : Int32) (hk : k ≤ 796) (ek : I 100 23 = nI k) : Ct γ mX12_puts 0 0 0 [.ref 100, .int v] (SS b c) I J (rV (SS b c) (tp4 I k v) J) := by
  refine ct_of okX12_puts (L := [some (.ref 100), some (.int v), none]) (Nat.le_of_ble_eq_true rfl) rfl ?_
  refine r_run okX12_puts 3 (cs := []) (σ' := (4, [some (.ref 100), some (.int v), some (.int 24)], [.int 24], (SS b c), I, J, 0, 0)) rfl trivial ?_
  refine r_ifc okX12_puts rfl (fun (h4 : (24 : Int32) < (0 : Int32)) => ?_) (fun (h4 : ¬ (24 : Int32) < (0 : Int32)) => ?_)
  · exact absurd h4 (by decide)
  · refine r_run okX12_puts 19 (cs := [vp_in (I 100 23) 800]) (σ' := (4, [some (.ref 100), some (.int v), some (.int (24 + (-8)))], [.int (24 + (-8))], (SS b c), (upI (upI I 118 ((I 100 23).toNatClampNeg) ((v >>> ((24 : Int32) &&& 31)) &&& 255)) 100 23 ((I 100 23) + 1)), J, 0, 0)) rfl ⟨(by rw [ek]; (try simp only [← nI_succ]); exact vin (by omega) (by decide)), trivial⟩ ?_
    refine r_ifc okX12_puts rfl (fun (h4_1 : (24 + (-8)) < (0 : Int32)) => ?_) (fun (h4_1 : ¬ (24 + (-8)) < (0 : Int32)) => ?_)
    · exact absurd h4_1 (by decide)
    · refine r_run okX12_puts 19 (cs := [vp_in ((I 100 23) + 1) 800]) (σ' := (4, [some (.ref 100), some (.int v), some (.int ((24 + (-8)) + (-8)))], [.int ((24 + (-8)) + (-8))], (SS b c), (upI (upI (upI (upI I 118 ((I 100 23).toNatClampNeg) ((v >>> ((24 : Int32) &&& 31)) &&& 255)) 100 23 ((I 100 23) + 1)) 118 (((I 100 23) + 1).toNatClampNeg) ((v >>> (((24 + (-8)) : Int32) &&& 31)) &&& 255)) 100 23 (((I 100 23) + 1) + 1)), J, 0, 0)) rfl ⟨(by rw [ek]; (try simp only [← nI_succ]); exact vin (by omega) (by decide)), trivial⟩ ?_
      refine r_ifc okX12_puts rfl (fun (h4_2 : ((24 + (-8)) + (-8)) < (0 : Int32)) => ?_) (fun (h4_2 : ¬ ((24 + (-8)) + (-8)) < (0 : Int32)) => ?_)
      · exact absurd h4_2 (by decide)
      · refine r_run okX12_puts 19 (cs := [vp_in (((I 100 23) + 1) + 1) 800]) (σ' := (4, [some (.ref 100), some (.int v), some (.int (((24 + (-8)) + (-8)) + (-8)))], [.int (((24 + (-8)) + (-8)) + (-8))], (SS b c), (upI (upI (upI (upI (upI (upI I 118 ((I 100 23).toNatClampNeg) ((v >>> ((24 : Int32) &&& 31)) &&& 255)) 100 23 ((I 100 23) + 1)) 118 (((I 100 23) + 1).toNatClampNeg) ((v >>> (((24 + (-8)) : Int32) &&& 31)) &&& 255)) 100 23 (((I 100 23) + 1) + 1)) 118 ((((I 100 23) + 1) + 1).toNatClampNeg) ((v >>> ((((24 + (-8)) + (-8)) : Int32) &&& 31)) &&& 255)) 100 23 ((((I 100 23) + 1) + 1) + 1)), J, 0, 0)) rfl ⟨(by rw [ek]; (try simp only [← nI_succ]); exact vin (by omega) (by decide)), trivial⟩ ?_
        refine r_ifc okX12_puts rfl (fun (h4_3 : (((24 + (-8)) + (-8)) + (-8)) < (0 : Int32)) => ?_) (fun (h4_3 : ¬ (((24 + (-8)) + (-8)) + (-8)) < (0 : Int32)) => ?_)
        · exact absurd h4_3 (by decide)
        · refine r_run okX12_puts 19 (cs := [vp_in ((((I 100 23) + 1) + 1) + 1) 800]) (σ' := (4, [some (.ref 100), some (.int v), some (.int ((((24 + (-8)) + (-8)) + (-8)) + (-8)))], [.int ((((24 + (-8)) + (-8)) + (-8)) + (-8))], (SS b c), (upI (upI (upI (upI (upI (upI (upI (upI I 118 ((I 100 23).toNatClampNeg) ((v >>> ((24 : Int32) &&& 31)) &&& 255)) 100 23 ((I 100 23) + 1)) 118 (((I 100 23) + 1).toNatClampNeg) ((v >>> (((24 + (-8)) : Int32) &&& 31)) &&& 255)) 100 23 (((I 100 23) + 1) + 1)) 118 ((((I 100 23) + 1) + 1).toNatClampNeg) ((v >>> ((((24 + (-8)) + (-8)) : Int32) &&& 31)) &&& 255)) 100 23 ((((I 100 23) + 1) + 1) + 1)) 118 (((((I 100 23) + 1) + 1) + 1).toNatClampNeg) ((v >>> (((((24 + (-8)) + (-8)) + (-8)) : Int32) &&& 31)) &&& 255)) 100 23 (((((I 100 23) + 1) + 1) + 1) + 1)), J, 0, 0)) rfl ⟨(by rw [ek]; (try simp only [← nI_succ]); exact vin (by omega) (by decide)), trivial⟩ ?_
          refine r_ifc okX12_puts rfl (fun (h4_4 : ((((24 + (-8)) + (-8)) + (-8)) + (-8)) < (0 : Int32)) => ?_) (fun (h4_4 : ¬ ((((24 + (-8)) + (-8)) + (-8)) + (-8)) < (0 : Int32)) => ?_)
          · refine r_vret okX12_puts rfl rfl (Nat.le_refl _) (Nat.le_refl _) ?_
            refine ⟨rfl, rfl, ?_, rfl⟩
            rw [ek]
            simp only [← nI_succ]
            rw [nI_clamp (n := k) (by omega), nI_clamp (n := k + 1) (by omega), nI_clamp (n := k + 1 + 1) (by omega), nI_clamp (n := k + 1 + 1 + 1) (by omega)]
            exact tp4_eq.symm
          · exact absurd h4_4 (by decide)
theorem tp4_t {I : AI} {k : Nat} {v : Int32} : tp4 I k v 100 23 = nI (k + 4) := by simp [tp4]
def MTape (I : AI) : Prop := rg 801 (I 100 23) ∧ ∀ i, i < 800 → rg 256 (I 118 i)
def feeB (I : AI) : Bool := decide (I 100 23 ≤ 780)
def feeN (I : AI) (p q r s t : Int32) : AI := if feeB I then tp4 (tp4 (tp4 (tp4 (tp4 I (nv (I 100 23)) p) (nv (I 100 23) + 4) q) (nv (I 100 23) + 8) r) (nv (I 100 23) + 12) s) (nv (I 100 23) + 16) t else I
def feeV (I : AI) : Int32 := if feeB I then nI (nv (I 100 23) + 20) else -1
theorem c_Mfeed (γ : GE) {b c : Bool} {I : AI} {J : AJ} (hT : I 100 0 = 0) (hI : MTape I) (p q r s t : Int32) : Ct γ mX12_feed 1 0 0 [.ref 100, .int p, .int q, .int r, .int s, .int t] (SS b c) I J (rI (feeV I) (SS b c) (feeN I p q r s t) J) := by
  have ht := told0 hT
  refine ct_of okX12_feed (L := [some (.ref 100), some (.int p), some (.int q), some (.int r), some (.int s), some (.int t)]) (Nat.le_of_ble_eq_true rfl) rfl ?_
  refine r_run okX12_feed 6 (cs := []) (σ' := (12, [some (.ref 100), some (.int p), some (.int q), some (.int r), some (.int s), some (.int t)], [.int 780, .int (I 100 23)], (SS b c), (upI I 100 0 0), J, 0, 0)) rfl trivial ?_
  simp only [ht]
  show Rj _ _ _ _ _ _ (12, [some (.ref 100), some (.int p), some (.int q), some (.int r), some (.int s), some (.int t)], [.int 780, .int (I 100 23)], (SS b c), I, J, 0, 0)
  refine r_icmp okX12_feed rfl (fun (h12 : (I 100 23) ≤ (780 : Int32)) => ?_) (fun (h12 : ¬ (I 100 23) ≤ (780 : Int32)) => ?_)
  · obtain ⟨k, hk0, ek⟩ := hI.1
    have hk : k ≤ 780 := Nat.le_of_not_lt fun q => absurd h12 (by rw [ek]; exact nI_ge (b := k) (a := 780) q (by omega))
    refine r_run okX12_feed 2 (cs := []) (σ' := (19, [some (.ref 100), some (.int p), some (.int q), some (.int r), some (.int s), some (.int t)], [.int p, .ref 100], (SS b c), I, J, 0, 0)) rfl trivial ?_
    refine r_callV okX12_feed okX12_puts [.int p] [] 100 rfl rfl rfl kkX12_puts rfl rfl (by decide) rfl rfl rfl (by decide) ⟨Nat.le_refl _, Nat.le_refl _⟩ (Nat.le_of_ble_eq_true rfl) (c_puts γ k p (by omega) ek) (fun v1 S1 I1 J1 hp => ?_)
    obtain ⟨rfl, rfl, rfl, rfl⟩ := hp
    show Rj _ _ _ _ _ _ (22, [some (.ref 100), some (.int p), some (.int q), some (.int r), some (.int s), some (.int t)], [], (SS b c), (tp4 I k p), J, 0, 0)
    refine r_run okX12_feed 2 (cs := []) (σ' := (24, [some (.ref 100), some (.int p), some (.int q), some (.int r), some (.int s), some (.int t)], [.int q, .ref 100], (SS b c), (tp4 I k p), J, 0, 0)) rfl trivial ?_
    refine r_callV okX12_feed okX12_puts [.int q] [] 100 rfl rfl rfl kkX12_puts rfl rfl (by decide) rfl rfl rfl (by decide) ⟨Nat.le_refl _, Nat.le_refl _⟩ (Nat.le_of_ble_eq_true rfl) (c_puts γ (k + 4) q (by omega) tp4_t) (fun v1 S1 I1 J1 hp => ?_)
    obtain ⟨rfl, rfl, rfl, rfl⟩ := hp
    show Rj _ _ _ _ _ _ (27, [some (.ref 100), some (.int p), some (.int q), some (.int r), some (.int s), some (.int t)], [], (SS b c), (tp4 (tp4 I k p) (k + 4) q), J, 0, 0)
    refine r_run okX12_feed 2 (cs := []) (σ' := (29, [some (.ref 100), some (.int p), some (.int q), some (.int r), some (.int s), some (.int t)], [.int r, .ref 100], (SS b c), (tp4 (tp4 I k p) (k + 4) q), J, 0, 0)) rfl trivial ?_
    refine r_callV okX12_feed okX12_puts [.int r] [] 100 rfl rfl rfl kkX12_puts rfl rfl (by decide) rfl rfl rfl (by decide) ⟨Nat.le_refl _, Nat.le_refl _⟩ (Nat.le_of_ble_eq_true rfl) (c_puts γ (k + 8) r (by omega) tp4_t) (fun v1 S1 I1 J1 hp => ?_)
    obtain ⟨rfl, rfl, rfl, rfl⟩ := hp
    show Rj _ _ _ _ _ _ (32, [some (.ref 100), some (.int p), some (.int q), some (.int r), some (.int s), some (.int t)], [], (SS b c), (tp4 (tp4 (tp4 I k p) (k + 4) q) (k + 8) r), J, 0, 0)
    refine r_run okX12_feed 2 (cs := []) (σ' := (35, [some (.ref 100), some (.int p), some (.int q), some (.int r), some (.int s), some (.int t)], [.int s, .ref 100], (SS b c), (tp4 (tp4 (tp4 I k p) (k + 4) q) (k + 8) r), J, 0, 0)) rfl trivial ?_
    refine r_callV okX12_feed okX12_puts [.int s] [] 100 rfl rfl rfl kkX12_puts rfl rfl (by decide) rfl rfl rfl (by decide) ⟨Nat.le_refl _, Nat.le_refl _⟩ (Nat.le_of_ble_eq_true rfl) (c_puts γ (k + 12) s (by omega) tp4_t) (fun v1 S1 I1 J1 hp => ?_)
    obtain ⟨rfl, rfl, rfl, rfl⟩ := hp
    show Rj _ _ _ _ _ _ (38, [some (.ref 100), some (.int p), some (.int q), some (.int r), some (.int s), some (.int t)], [], (SS b c), (tp4 (tp4 (tp4 (tp4 I k p) (k + 4) q) (k + 8) r) (k + 12) s), J, 0, 0)
    refine r_run okX12_feed 2 (cs := []) (σ' := (41, [some (.ref 100), some (.int p), some (.int q), some (.int r), some (.int s), some (.int t)], [.int t, .ref 100], (SS b c), (tp4 (tp4 (tp4 (tp4 I k p) (k + 4) q) (k + 8) r) (k + 12) s), J, 0, 0)) rfl trivial ?_
    refine r_callV okX12_feed okX12_puts [.int t] [] 100 rfl rfl rfl kkX12_puts rfl rfl (by decide) rfl rfl rfl (by decide) ⟨Nat.le_refl _, Nat.le_refl _⟩ (Nat.le_of_ble_eq_true rfl) (c_puts γ (k + 16) t (by omega) tp4_t) (fun v1 S1 I1 J1 hp => ?_)
    obtain ⟨rfl, rfl, rfl, rfl⟩ := hp
    show Rj _ _ _ _ _ _ (44, [some (.ref 100), some (.int p), some (.int q), some (.int r), some (.int s), some (.int t)], [], (SS b c), (tp4 (tp4 (tp4 (tp4 (tp4 I k p) (k + 4) q) (k + 8) r) (k + 12) s) (k + 16) t), J, 0, 0)
    refine r_run okX12_feed 2 (cs := []) (σ' := (48, [some (.ref 100), some (.int p), some (.int q), some (.int r), some (.int s), some (.int t)], [.int ((tp4 (tp4 (tp4 (tp4 (tp4 I k p) (k + 4) q) (k + 8) r) (k + 12) s) (k + 16) t) 100 23)], (SS b c), (tp4 (tp4 (tp4 (tp4 (tp4 I k p) (k + 4) q) (k + 8) r) (k + 12) s) (k + 16) t), J, 0, 0)) rfl trivial ?_
    refine r_iret okX12_feed rfl rfl rfl (Nat.le_refl _) (Nat.le_refl _) ?_
    have hb : feeB I = true := decide_eq_true h12
    refine ⟨?_, rfl, ?_, rfl⟩
    · rw [feeV, hb, if_pos rfl, tp4_t, ek, nv_nI (by omega)]
    · rw [feeN, hb, if_pos rfl, ek, nv_nI (by omega)]
  · refine r_run okX12_feed 1 (cs := []) (σ' := (16, [some (.ref 100), some (.int p), some (.int q), some (.int r), some (.int s), some (.int t)], [.int (-1)], (SS b c), I, J, 0, 0)) rfl trivial ?_
    refine r_iret okX12_feed rfl rfl rfl (Nat.le_refl _) (Nat.le_refl _) ?_
    exact ⟨by simp [feeV, feeB, h12], rfl, by simp [feeN, feeB, h12], rfl⟩
