/-! ===== the reference: tellings ===== -/
def telB (I : AI) (t : Int32) : Bool := inB t 0 (I 100 5) && decide (¬ I 100 13 = 300)
def telN (I : AI) (k r t x d : Int32) : AI := upI (upI (upI (upI (upI (upI (upI I 110 (nv (I 100 13)) k) 111 (nv (I 100 13)) r) 112 (nv (I 100 13)) t) 113 (nv (I 100 13)) x) 114 (nv (I 100 13)) d) 115 (nv (I 100 13)) (I 100 5)) 100 13 (I 100 13 + 1)
def MTel (I : AI) : Prop := rg 301 (I 100 13) ∧ ∀ i, i < nv (I 100 13) → rg 4 (I 110 i) ∧ rg 3 (I 111 i) ∧ rg 720 (I 112 i) ∧ rg 96 (I 113 i) ∧ (I 110 i = 2 → rg 6 (I 114 i)) ∧ rg 720 (I 115 i)
theorem c_tells (γ : GE) {b c : Bool} {I : AI} {J : AJ} (hI : MTel I) (k r t x d : Int32) : Ct γ mX12_tells 1 0 0 [.ref 100, .int k, .int r, .int t, .int x, .int d] (SS b c) I J (rI (bi (telB I t)) (SS b c) (if telB I t then telN I k r t x d else I) J) := by
  refine ct_of okX12_tells (L := [some (.ref 100), some (.int k), some (.int r), some (.int t), some (.int x), some (.int d)]) (Nat.le_of_ble_eq_true rfl) rfl ?_
  refine r_run okX12_tells 5 (cs := []) (σ' := (7, [some (.ref 100), some (.int k), some (.int r), some (.int t), some (.int x), some (.int d)], [.int (I 100 5), .int 0, .int t, .ref 100], (SS b c), I, J, 0, 0)) rfl trivial ?_
  refine r_callV okX12_tells okX12_isIn [.int t, .int 0, .int (I 100 5)] [] 100 rfl rfl rfl kkX12_isIn rfl rfl (by decide) rfl rfl rfl (by decide) ⟨Nat.le_refl _, Nat.le_refl _⟩ (Nat.le_of_ble_eq_true rfl) (c_isIn γ t 0 (I 100 5)) (fun v1 S1 I1 J1 hp => ?_)
  obtain ⟨rfl, rfl, rfl, rfl⟩ := hp
  show Rj _ _ _ _ _ _ (10, [some (.ref 100), some (.int k), some (.int r), some (.int t), some (.int x), some (.int d)], [.int (bi (inB t 0 (I 100 5)))], (SS b c), I, J, 0, 0)
  refine r_ifc okX12_tells rfl (fun (h10 : (bi (inB t 0 (I 100 5))) = (0 : Int32)) => ?_) (fun (h10 : ¬ (bi (inB t 0 (I 100 5))) = (0 : Int32)) => ?_)
  · have h10s := bi_0.mp h10
    refine r_run okX12_tells 1 (cs := []) (σ' := (24, [some (.ref 100), some (.int k), some (.int r), some (.int t), some (.int x), some (.int d)], [.int 0], (SS b c), I, J, 0, 0)) rfl trivial ?_
    refine r_iret okX12_tells rfl rfl (by decide +kernel) (Nat.le_refl _) (Nat.le_refl _) ?_
    refine ⟨?_, rfl, ?_, rfl⟩ <;> simp [telN, telB, bi_t, bi_f, nv, *]
  · have h10s := bi_n0.mp h10
    refine r_run okX12_tells 3 (cs := []) (σ' := (20, [some (.ref 100), some (.int k), some (.int r), some (.int t), some (.int x), some (.int d)], [.int 300, .int (I 100 13)], (SS b c), I, J, 0, 0)) rfl trivial ?_
    refine r_icmp okX12_tells rfl (fun (h20 : ¬ (I 100 13) = (300 : Int32)) => ?_) (fun h200 => ?_)
    · have hv : vp_in (I 100 13) 300 := by
        obtain ⟨m, hm, em⟩ := hI.1
        rw [em] at h20 ⊢
        exact vin (Nat.lt_of_le_of_ne (by omega) (fun q => h20 (by rw [q]; rfl))) (by decide)
      refine r_run okX12_tells 44 (cs := [vp_in (I 100 13) 300, vp_in (I 100 13) 300, vp_in (I 100 13) 300, vp_in (I 100 13) 300, vp_in (I 100 13) 300, vp_in (I 100 13) 300]) (σ' := (101, [some (.ref 100), some (.int k), some (.int r), some (.int t), some (.int x), some (.int d)], [.int 1], (SS b c), (upI (upI (upI (upI (upI (upI (upI I 110 ((I 100 13).toNatClampNeg) k) 111 ((I 100 13).toNatClampNeg) r) 112 ((I 100 13).toNatClampNeg) t) 113 ((I 100 13).toNatClampNeg) x) 114 ((I 100 13).toNatClampNeg) d) 115 ((I 100 13).toNatClampNeg) (I 100 5)) 100 13 ((I 100 13) + 1)), J, 0, 0)) rfl ⟨hv, hv, hv, hv, hv, hv, trivial⟩ ?_
      refine r_iret okX12_tells rfl rfl (by decide +kernel) (Nat.le_refl _) (Nat.le_refl _) ?_
      refine ⟨?_, rfl, ?_, rfl⟩ <;> simp [telN, telB, bi_t, bi_f, nv, *]
    · have h20 : (I 100 13) = (300 : Int32) := Classical.not_not.mp h200
      refine r_run okX12_tells 1 (cs := []) (σ' := (24, [some (.ref 100), some (.int k), some (.int r), some (.int t), some (.int x), some (.int d)], [.int 0], (SS b c), I, J, 0, 0)) rfl trivial ?_
      refine r_iret okX12_tells rfl rfl (by decide +kernel) (Nat.le_refl _) (Nat.le_refl _) ?_
      refine ⟨?_, rfl, ?_, rfl⟩ <;> simp [telN, telB, bi_t, bi_f, nv, *]
def seeB (I : AI) (r t x : Int32) : Bool := hasR I r && (cellB x && telB I t)
def seeN (I : AI) (r t x : Int32) : AI := if seeB I r t x then telN I 0 r t x 0 else I
def barB (I : AI) (r t : Int32) : Bool := hasR I r && telB I t
def barN (I : AI) (r t : Int32) : AI := if barB I r t then telN I 1 r t 0 0 else I
def worB (I : AI) (t x d : Int32) : Bool := cellB x && (inB d (-1) 5 && telB I t)
def worN (I : AI) (t x d : Int32) : AI := if worB I t x d then telN I (if d = -1 then 3 else 2) 0 t x d else I
theorem c_Mseen (γ : GE) {b c : Bool} {I : AI} {J : AJ} (hT : I 100 0 = 0) (hI : MTel I) (r t x : Int32) : Ct γ mX12_seen 2 0 0 [.ref 100, .int r, .int t, .int x] (SS b c) I J (rI (bi (seeB I r t x)) (SS b c) (seeN I r t x) J) := by
  have ht := told0 hT
  refine ct_of okX12_seen (L := [some (.ref 100), some (.int r), some (.int t), some (.int x)]) (Nat.le_of_ble_eq_true rfl) rfl ?_
  refine r_run okX12_seen 5 (cs := []) (σ' := (7, [some (.ref 100), some (.int r), some (.int t), some (.int x)], [.int r, .ref 100], (SS b c), (upI I 100 0 0), J, 0, 0)) rfl trivial ?_
  simp only [ht]
  show Rj _ _ _ _ _ _ (7, [some (.ref 100), some (.int r), some (.int t), some (.int x)], [.int r, .ref 100], (SS b c), I, J, 0, 0)
  refine r_callV okX12_seen okX12_hasRadar [.int r] [] 100 rfl rfl rfl kkX12_hasRadar rfl rfl (by decide) rfl rfl rfl (by decide) ⟨Nat.le_refl _, Nat.le_refl _⟩ (Nat.le_of_ble_eq_true rfl) (c_hasRadar γ r) (fun v1 S1 I1 J1 hp => ?_)
  obtain ⟨rfl, rfl, rfl, rfl⟩ := hp
  show Rj _ _ _ _ _ _ (10, [some (.ref 100), some (.int r), some (.int t), some (.int x)], [.int (bi (hasR I r))], (SS b c), I, J, 0, 0)
  refine r_ifc okX12_seen rfl (fun (h10 : (bi (hasR I r)) = (0 : Int32)) => ?_) (fun (h10 : ¬ (bi (hasR I r)) = (0 : Int32)) => ?_)
  · have h10s := bi_0.mp h10
    refine r_run okX12_seen 1 (cs := []) (σ' := (38, [some (.ref 100), some (.int r), some (.int t), some (.int x)], [.int 0], (SS b c), I, J, 0, 0)) rfl trivial ?_
    refine r_iret okX12_seen rfl rfl (by decide +kernel) (Nat.le_refl _) (Nat.le_refl _) ?_
    refine ⟨?_, rfl, ?_, rfl⟩ <;> simp [seeN, seeB, bi_t, bi_f, *]
  · have h10s := bi_n0.mp h10
    refine r_run okX12_seen 2 (cs := []) (σ' := (15, [some (.ref 100), some (.int r), some (.int t), some (.int x)], [.int x, .ref 100], (SS b c), I, J, 0, 0)) rfl trivial ?_
    refine r_callV okX12_seen okX12_isCell [.int x] [] 100 rfl rfl rfl kkX12_isCell rfl rfl (by decide) rfl rfl rfl (by decide) ⟨Nat.le_refl _, Nat.le_refl _⟩ (Nat.le_of_ble_eq_true rfl) (c_isCell γ x) (fun v1 S1 I1 J1 hp => ?_)
    obtain ⟨rfl, rfl, rfl, rfl⟩ := hp
    show Rj _ _ _ _ _ _ (18, [some (.ref 100), some (.int r), some (.int t), some (.int x)], [.int (bi (cellB x))], (SS b c), I, J, 0, 0)
    refine r_ifc okX12_seen rfl (fun (h18 : (bi (cellB x)) = (0 : Int32)) => ?_) (fun (h18 : ¬ (bi (cellB x)) = (0 : Int32)) => ?_)
    · have h18s := bi_0.mp h18
      refine r_run okX12_seen 1 (cs := []) (σ' := (38, [some (.ref 100), some (.int r), some (.int t), some (.int x)], [.int 0], (SS b c), I, J, 0, 0)) rfl trivial ?_
      refine r_iret okX12_seen rfl rfl (by decide +kernel) (Nat.le_refl _) (Nat.le_refl _) ?_
      refine ⟨?_, rfl, ?_, rfl⟩ <;> simp [seeN, seeB, bi_t, bi_f, *]
    · have h18s := bi_n0.mp h18
      refine r_run okX12_seen 6 (cs := []) (σ' := (27, [some (.ref 100), some (.int r), some (.int t), some (.int x)], [.int 0, .int x, .int t, .int r, .int 0, .ref 100], (SS b c), I, J, 0, 0)) rfl trivial ?_
      refine r_callV okX12_seen okX12_tells [.int 0, .int r, .int t, .int x, .int 0] [] 100 rfl rfl rfl kkX12_tells rfl rfl (by decide) rfl rfl rfl (by decide) ⟨Nat.le_refl _, Nat.le_refl _⟩ (Nat.le_of_ble_eq_true rfl) (c_tells γ hI 0 r t x 0) (fun v1 S1 I1 J1 hp => ?_)
      obtain ⟨rfl, rfl, rfl, rfl⟩ := hp
      show Rj _ _ _ _ _ _ (30, [some (.ref 100), some (.int r), some (.int t), some (.int x)], [.int (bi (telB I t))], (SS b c), (if telB I t then telN I 0 r t x 0 else I), J, 0, 0)
      refine r_ifc okX12_seen rfl (fun (h30 : (bi (telB I t)) = (0 : Int32)) => ?_) (fun (h30 : ¬ (bi (telB I t)) = (0 : Int32)) => ?_)
      · have h30s := bi_0.mp h30
        refine r_run okX12_seen 1 (cs := []) (σ' := (38, [some (.ref 100), some (.int r), some (.int t), some (.int x)], [.int 0], (SS b c), (if telB I t then telN I 0 r t x 0 else I), J, 0, 0)) rfl trivial ?_
        refine r_iret okX12_seen rfl rfl (by decide +kernel) (Nat.le_refl _) (Nat.le_refl _) ?_
        refine ⟨?_, rfl, ?_, rfl⟩ <;> simp [seeN, seeB, bi_t, bi_f, *]
      · have h30s := bi_n0.mp h30
        refine r_run okX12_seen 2 (cs := []) (σ' := (38, [some (.ref 100), some (.int r), some (.int t), some (.int x)], [.int 1], (SS b c), (if telB I t then telN I 0 r t x 0 else I), J, 0, 0)) rfl trivial ?_
        refine r_iret okX12_seen rfl rfl (by decide +kernel) (Nat.le_refl _) (Nat.le_refl _) ?_
        refine ⟨?_, rfl, ?_, rfl⟩ <;> simp [seeN, seeB, bi_t, bi_f, *]
theorem c_Mbare (γ : GE) {b c : Bool} {I : AI} {J : AJ} (hT : I 100 0 = 0) (hI : MTel I) (r t : Int32) : Ct γ mX12_bare 2 0 0 [.ref 100, .int r, .int t] (SS b c) I J (rI (bi (barB I r t)) (SS b c) (barN I r t) J) := by
  have ht := told0 hT
  refine ct_of okX12_bare (L := [some (.ref 100), some (.int r), some (.int t)]) (Nat.le_of_ble_eq_true rfl) rfl ?_
  refine r_run okX12_bare 5 (cs := []) (σ' := (7, [some (.ref 100), some (.int r), some (.int t)], [.int r, .ref 100], (SS b c), (upI I 100 0 0), J, 0, 0)) rfl trivial ?_
  simp only [ht]
  show Rj _ _ _ _ _ _ (7, [some (.ref 100), some (.int r), some (.int t)], [.int r, .ref 100], (SS b c), I, J, 0, 0)
  refine r_callV okX12_bare okX12_hasRadar [.int r] [] 100 rfl rfl rfl kkX12_hasRadar rfl rfl (by decide) rfl rfl rfl (by decide) ⟨Nat.le_refl _, Nat.le_refl _⟩ (Nat.le_of_ble_eq_true rfl) (c_hasRadar γ r) (fun v1 S1 I1 J1 hp => ?_)
  obtain ⟨rfl, rfl, rfl, rfl⟩ := hp
  show Rj _ _ _ _ _ _ (10, [some (.ref 100), some (.int r), some (.int t)], [.int (bi (hasR I r))], (SS b c), I, J, 0, 0)
  refine r_ifc okX12_bare rfl (fun (h10 : (bi (hasR I r)) = (0 : Int32)) => ?_) (fun (h10 : ¬ (bi (hasR I r)) = (0 : Int32)) => ?_)
  · have h10s := bi_0.mp h10
    refine r_run okX12_bare 1 (cs := []) (σ' := (30, [some (.ref 100), some (.int r), some (.int t)], [.int 0], (SS b c), I, J, 0, 0)) rfl trivial ?_
    refine r_iret okX12_bare rfl rfl (by decide +kernel) (Nat.le_refl _) (Nat.le_refl _) ?_
    refine ⟨?_, rfl, ?_, rfl⟩ <;> simp [barN, barB, bi_t, bi_f, *]
  · have h10s := bi_n0.mp h10
    refine r_run okX12_bare 6 (cs := []) (σ' := (19, [some (.ref 100), some (.int r), some (.int t)], [.int 0, .int 0, .int t, .int r, .int 1, .ref 100], (SS b c), I, J, 0, 0)) rfl trivial ?_
    refine r_callV okX12_bare okX12_tells [.int 1, .int r, .int t, .int 0, .int 0] [] 100 rfl rfl rfl kkX12_tells rfl rfl (by decide) rfl rfl rfl (by decide) ⟨Nat.le_refl _, Nat.le_refl _⟩ (Nat.le_of_ble_eq_true rfl) (c_tells γ hI 1 r t 0 0) (fun v1 S1 I1 J1 hp => ?_)
    obtain ⟨rfl, rfl, rfl, rfl⟩ := hp
    show Rj _ _ _ _ _ _ (22, [some (.ref 100), some (.int r), some (.int t)], [.int (bi (telB I t))], (SS b c), (if telB I t then telN I 1 r t 0 0 else I), J, 0, 0)
    refine r_ifc okX12_bare rfl (fun (h22 : (bi (telB I t)) = (0 : Int32)) => ?_) (fun (h22 : ¬ (bi (telB I t)) = (0 : Int32)) => ?_)
    · have h22s := bi_0.mp h22
      refine r_run okX12_bare 1 (cs := []) (σ' := (30, [some (.ref 100), some (.int r), some (.int t)], [.int 0], (SS b c), (if telB I t then telN I 1 r t 0 0 else I), J, 0, 0)) rfl trivial ?_
      refine r_iret okX12_bare rfl rfl (by decide +kernel) (Nat.le_refl _) (Nat.le_refl _) ?_
      refine ⟨?_, rfl, ?_, rfl⟩ <;> simp [barN, barB, bi_t, bi_f, *]
    · have h22s := bi_n0.mp h22
      refine r_run okX12_bare 2 (cs := []) (σ' := (30, [some (.ref 100), some (.int r), some (.int t)], [.int 1], (SS b c), (if telB I t then telN I 1 r t 0 0 else I), J, 0, 0)) rfl trivial ?_
      refine r_iret okX12_bare rfl rfl (by decide +kernel) (Nat.le_refl _) (Nat.le_refl _) ?_
      refine ⟨?_, rfl, ?_, rfl⟩ <;> simp [barN, barB, bi_t, bi_f, *]
theorem c_Mword (γ : GE) {b c : Bool} {I : AI} {J : AJ} (hT : I 100 0 = 0) (hI : MTel I) (t x d : Int32) : Ct γ mX12_word 2 0 0 [.ref 100, .int t, .int x, .int d] (SS b c) I J (rI (bi (worB I t x d)) (SS b c) (worN I t x d) J) := by
  have ht := told0 hT
  refine ct_of okX12_word (L := [some (.ref 100), some (.int t), some (.int x), some (.int d)]) (Nat.le_of_ble_eq_true rfl) rfl ?_
  refine r_run okX12_word 5 (cs := []) (σ' := (7, [some (.ref 100), some (.int t), some (.int x), some (.int d)], [.int x, .ref 100], (SS b c), (upI I 100 0 0), J, 0, 0)) rfl trivial ?_
  simp only [ht]
  show Rj _ _ _ _ _ _ (7, [some (.ref 100), some (.int t), some (.int x), some (.int d)], [.int x, .ref 100], (SS b c), I, J, 0, 0)
  refine r_callV okX12_word okX12_isCell [.int x] [] 100 rfl rfl rfl kkX12_isCell rfl rfl (by decide) rfl rfl rfl (by decide) ⟨Nat.le_refl _, Nat.le_refl _⟩ (Nat.le_of_ble_eq_true rfl) (c_isCell γ x) (fun v1 S1 I1 J1 hp => ?_)
  obtain ⟨rfl, rfl, rfl, rfl⟩ := hp
  show Rj _ _ _ _ _ _ (10, [some (.ref 100), some (.int t), some (.int x), some (.int d)], [.int (bi (cellB x))], (SS b c), I, J, 0, 0)
  refine r_ifc okX12_word rfl (fun (h10 : (bi (cellB x)) = (0 : Int32)) => ?_) (fun (h10 : ¬ (bi (cellB x)) = (0 : Int32)) => ?_)
  · have h10s := bi_0.mp h10
    refine r_run okX12_word 1 (cs := []) (σ' := (49, [some (.ref 100), some (.int t), some (.int x), some (.int d)], [.int 0], (SS b c), I, J, 0, 0)) rfl trivial ?_
    refine r_iret okX12_word rfl rfl (by decide +kernel) (Nat.le_refl _) (Nat.le_refl _) ?_
    try subst h26
    refine ⟨?_, rfl, ?_, rfl⟩ <;> simp [worN, worB, bi_t, bi_f, *]
  · have h10s := bi_n0.mp h10
    refine r_run okX12_word 4 (cs := []) (σ' := (17, [some (.ref 100), some (.int t), some (.int x), some (.int d)], [.int 5, .int (-1), .int d, .ref 100], (SS b c), I, J, 0, 0)) rfl trivial ?_
    refine r_callV okX12_word okX12_isIn [.int d, .int (-1), .int 5] [] 100 rfl rfl rfl kkX12_isIn rfl rfl (by decide) rfl rfl rfl (by decide) ⟨Nat.le_refl _, Nat.le_refl _⟩ (Nat.le_of_ble_eq_true rfl) (c_isIn γ d (-1) 5) (fun v1 S1 I1 J1 hp => ?_)
    obtain ⟨rfl, rfl, rfl, rfl⟩ := hp
    show Rj _ _ _ _ _ _ (20, [some (.ref 100), some (.int t), some (.int x), some (.int d)], [.int (bi (inB d (-1) 5))], (SS b c), I, J, 0, 0)
    refine r_ifc okX12_word rfl (fun (h20 : (bi (inB d (-1) 5)) = (0 : Int32)) => ?_) (fun (h20 : ¬ (bi (inB d (-1) 5)) = (0 : Int32)) => ?_)
    · have h20s := bi_0.mp h20
      refine r_run okX12_word 1 (cs := []) (σ' := (49, [some (.ref 100), some (.int t), some (.int x), some (.int d)], [.int 0], (SS b c), I, J, 0, 0)) rfl trivial ?_
      refine r_iret okX12_word rfl rfl (by decide +kernel) (Nat.le_refl _) (Nat.le_refl _) ?_
      try subst h26
      refine ⟨?_, rfl, ?_, rfl⟩ <;> simp [worN, worB, bi_t, bi_f, *]
    · have h20s := bi_n0.mp h20
      refine r_run okX12_word 3 (cs := []) (σ' := (26, [some (.ref 100), some (.int t), some (.int x), some (.int d)], [.int (-1), .int d, .ref 100], (SS b c), I, J, 0, 0)) rfl trivial ?_
      refine r_icmp okX12_word rfl (fun (h26 : ¬ d = ((-1) : Int32)) => ?_) (fun h260 => ?_)
      · refine r_run okX12_word 5 (cs := []) (σ' := (38, [some (.ref 100), some (.int t), some (.int x), some (.int d)], [.int d, .int x, .int t, .int 0, .int 2, .ref 100], (SS b c), I, J, 0, 0)) rfl trivial ?_
        refine r_callV okX12_word okX12_tells [.int 2, .int 0, .int t, .int x, .int d] [] 100 rfl rfl rfl kkX12_tells rfl rfl (by decide) rfl rfl rfl (by decide) ⟨Nat.le_refl _, Nat.le_refl _⟩ (Nat.le_of_ble_eq_true rfl) (c_tells γ hI 2 0 t x d) (fun v1 S1 I1 J1 hp => ?_)
        obtain ⟨rfl, rfl, rfl, rfl⟩ := hp
        show Rj _ _ _ _ _ _ (41, [some (.ref 100), some (.int t), some (.int x), some (.int d)], [.int (bi (telB I t))], (SS b c), (if telB I t then telN I 2 0 t x d else I), J, 0, 0)
        refine r_ifc okX12_word rfl (fun (h41 : (bi (telB I t)) = (0 : Int32)) => ?_) (fun (h41 : ¬ (bi (telB I t)) = (0 : Int32)) => ?_)
        · have h41s := bi_0.mp h41
          refine r_run okX12_word 1 (cs := []) (σ' := (49, [some (.ref 100), some (.int t), some (.int x), some (.int d)], [.int 0], (SS b c), (if telB I t then telN I 2 0 t x d else I), J, 0, 0)) rfl trivial ?_
          refine r_iret okX12_word rfl rfl (by decide +kernel) (Nat.le_refl _) (Nat.le_refl _) ?_
          try subst h26
          refine ⟨?_, rfl, ?_, rfl⟩ <;> simp [worN, worB, bi_t, bi_f, *]
        · have h41s := bi_n0.mp h41
          refine r_run okX12_word 2 (cs := []) (σ' := (49, [some (.ref 100), some (.int t), some (.int x), some (.int d)], [.int 1], (SS b c), (if telB I t then telN I 2 0 t x d else I), J, 0, 0)) rfl trivial ?_
          refine r_iret okX12_word rfl rfl (by decide +kernel) (Nat.le_refl _) (Nat.le_refl _) ?_
          try subst h26
          refine ⟨?_, rfl, ?_, rfl⟩ <;> simp [worN, worB, bi_t, bi_f, *]
      · have h26 : d = ((-1) : Int32) := Classical.not_not.mp h260
        refine r_run okX12_word 6 (cs := []) (σ' := (38, [some (.ref 100), some (.int t), some (.int x), some (.int d)], [.int d, .int x, .int t, .int 0, .int 3, .ref 100], (SS b c), I, J, 0, 0)) rfl trivial ?_
        refine r_callV okX12_word okX12_tells [.int 3, .int 0, .int t, .int x, .int d] [] 100 rfl rfl rfl kkX12_tells rfl rfl (by decide) rfl rfl rfl (by decide) ⟨Nat.le_refl _, Nat.le_refl _⟩ (Nat.le_of_ble_eq_true rfl) (c_tells γ hI 3 0 t x d) (fun v1 S1 I1 J1 hp => ?_)
        obtain ⟨rfl, rfl, rfl, rfl⟩ := hp
        show Rj _ _ _ _ _ _ (41, [some (.ref 100), some (.int t), some (.int x), some (.int d)], [.int (bi (telB I t))], (SS b c), (if telB I t then telN I 3 0 t x d else I), J, 0, 0)
        refine r_ifc okX12_word rfl (fun (h41_1 : (bi (telB I t)) = (0 : Int32)) => ?_) (fun (h41_1 : ¬ (bi (telB I t)) = (0 : Int32)) => ?_)
        · have h41_1s := bi_0.mp h41_1
          refine r_run okX12_word 1 (cs := []) (σ' := (49, [some (.ref 100), some (.int t), some (.int x), some (.int d)], [.int 0], (SS b c), (if telB I t then telN I 3 0 t x d else I), J, 0, 0)) rfl trivial ?_
          refine r_iret okX12_word rfl rfl (by decide +kernel) (Nat.le_refl _) (Nat.le_refl _) ?_
          try subst h26
          refine ⟨?_, rfl, ?_, rfl⟩ <;> simp [worN, worB, bi_t, bi_f, *]
        · have h41_1s := bi_n0.mp h41_1
          refine r_run okX12_word 2 (cs := []) (σ' := (49, [some (.ref 100), some (.int t), some (.int x), some (.int d)], [.int 1], (SS b c), (if telB I t then telN I 3 0 t x d else I), J, 0, 0)) rfl trivial ?_
          refine r_iret okX12_word rfl rfl (by decide +kernel) (Nat.le_refl _) (Nat.le_refl _) ?_
          try subst h26
          refine ⟨?_, rfl, ?_, rfl⟩ <;> simp [worN, worB, bi_t, bi_f, *]
def allB (I : AI) (i x : Nat) : Bool := if I 110 i = 0 then decide (farN x (nv (I 113 i)) ≤ nv (I 108 (nv (I 111 i)))) else if I 110 i = 1 then !seesB I (nv (I 111 i)) x else decide (I 110 i = 3) || decide (farN x (nv (I 113 i)) ≤ nv (I 114 i))
theorem c_allows0 (γ : GE) {b c : Bool} {I : AI} {J : AJ} (hR : MRad I) (hI : MTel I) (i x : Nat) (hi0 : i < nv (I 100 13)) (hx : x < 96) : Ct γ mX12_allows 2 0 0 [.ref 100, .int (nI i), .int (nI x)] (SS b c) I J (rI (bi (allB I i x)) (SS b c) I J) := by
  have hi : i < 300 := by have := (rg_nv hI.1 (by decide)).1; omega
  obtain ⟨⟨kk, hk, ek0⟩, ⟨q, hq, eq⟩, -, ⟨p, hp, ep⟩, hd, -⟩ := hI.2 i hi0
  obtain ⟨-, -, -, ⟨m, hm, em⟩⟩ := hR.1 q hq
  have ci : (nI i).toNatClampNeg = i := nI_clamp (by omega)
  have cq : (I 111 i).toNatClampNeg = q := by rw [eq]; exact nI_clamp (by omega)
  have cq0 : (I 111 (nI i).toNatClampNeg).toNatClampNeg = q := by rw [ci]; exact cq
  have cq1 : I 111 (nI i).toNatClampNeg = nI q := by rw [ci]; exact eq
  have ek : I 110 i = 0 ∨ I 110 i = 1 ∨ I 110 i = 2 ∨ I 110 i = 3 := by
    rw [ek0]
    rcases (show kk = 0 ∨ kk = 1 ∨ kk = 2 ∨ kk = 3 by omega) with rfl | rfl | rfl | rfl <;> decide
  clear ek0
  refine ct_of okX12_allows (L := [some (.ref 100), some (.int (nI i)), some (.int (nI x))]) (Nat.le_of_ble_eq_true rfl) rfl ?_
  refine r_run okX12_allows 4 (cs := [vp_in (nI i) 300]) (σ' := (6, [some (.ref 100), some (.int (nI i)), some (.int (nI x))], [.int (I 110 ((nI i).toNatClampNeg))], (SS b c), I, J, 0, 0)) rfl ⟨(vin hi (by decide)), trivial⟩ ?_
  simp only [ci]
  show Rj _ _ _ _ _ _ (6, [some (.ref 100), some (.int (nI i)), some (.int (nI x))], [.int (I 110 i)], (SS b c), I, J, 0, 0)
  refine r_ifc okX12_allows rfl (fun (h6 : ¬ (I 110 i) = (0 : Int32)) => ?_) (fun h60 => ?_)
  · refine r_run okX12_allows 5 (cs := [vp_in (nI i) 300]) (σ' := (47, [some (.ref 100), some (.int (nI i)), some (.int (nI x))], [.int 1, .int (I 110 ((nI i).toNatClampNeg))], (SS b c), I, J, 0, 0)) rfl ⟨(vin hi (by decide)), trivial⟩ ?_
    simp only [ci]
    show Rj _ _ _ _ _ _ (47, [some (.ref 100), some (.int (nI i)), some (.int (nI x))], [.int 1, .int (I 110 i)], (SS b c), I, J, 0, 0)
    refine r_icmp okX12_allows rfl (fun (h47 : ¬ (I 110 i) = (1 : Int32)) => ?_) (fun h470 => ?_)
    · refine r_run okX12_allows 5 (cs := [vp_in (nI i) 300]) (σ' := (77, [some (.ref 100), some (.int (nI i)), some (.int (nI x))], [.int 3, .int (I 110 ((nI i).toNatClampNeg))], (SS b c), I, J, 0, 0)) rfl ⟨(vin hi (by decide)), trivial⟩ ?_
      simp only [ci]
      show Rj _ _ _ _ _ _ (77, [some (.ref 100), some (.int (nI i)), some (.int (nI x))], [.int 3, .int (I 110 i)], (SS b c), I, J, 0, 0)
      refine r_icmp okX12_allows rfl (fun (h77 : (I 110 i) = (3 : Int32)) => ?_) (fun (h77 : ¬ (I 110 i) = (3 : Int32)) => ?_)
      · refine r_run okX12_allows 2 (cs := []) (σ' := (105, [some (.ref 100), some (.int (nI i)), some (.int (nI x))], [.int 1], (SS b c), I, J, 0, 0)) rfl trivial ?_
        refine r_iret okX12_allows rfl rfl (by decide +kernel) (Nat.le_refl _) (Nat.le_refl _) ?_
        refine ⟨?_, rfl, rfl, rfl⟩
        simp only [allB, eq, ep, nv_nI (show q < 2 ^ 31 by omega), nv_nI (show p < 2 ^ 31 by omega), em, nv_nI (show m < 2 ^ 31 by omega)]
        try simp only [ey, nv_nI (show y < 2 ^ 31 by omega)]
        simp [bi_t, bi_f, *]
      · obtain ⟨y, hy, ey⟩ : rg 6 (I 114 i) := hd (by rcases ek with e | e | e | e <;> simp_all)
        refine r_run okX12_allows 6 (cs := [vp_in (nI i) 300]) (σ' := (88, [some (.ref 100), some (.int (nI i)), some (.int (nI x))], [.int (I 113 ((nI i).toNatClampNeg)), .int (nI x), .ref 100], (SS b c), I, J, 0, 0)) rfl ⟨(vin hi (by decide)), trivial⟩ ?_
        simp only [ci]
        show Rj _ _ _ _ _ _ (88, [some (.ref 100), some (.int (nI i)), some (.int (nI x))], [.int (I 113 i), .int (nI x), .ref 100], (SS b c), I, J, 0, 0)
        refine r_callV okX12_allows okX12_far [.int (nI x), .int (I 113 i)] [] 100 rfl rfl rfl kkX12_far rfl rfl (by decide) rfl rfl rfl (by decide) ⟨Nat.le_refl _, Nat.le_refl _⟩ (Nat.le_of_ble_eq_true rfl) (c_far γ hx hp rfl ep) (fun v1 S1 I1 J1 hp => ?_)
        obtain ⟨rfl, rfl, rfl, rfl⟩ := hp
        show Rj _ _ _ _ _ _ (91, [some (.ref 100), some (.int (nI i)), some (.int (nI x))], [.int (nI (farN x p))], (SS b c), I, J, 0, 0)
        refine r_run okX12_allows 4 (cs := [vp_in (nI i) 300]) (σ' := (97, [some (.ref 100), some (.int (nI i)), some (.int (nI x))], [.int (I 114 ((nI i).toNatClampNeg)), .int (nI (farN x p))], (SS b c), I, J, 0, 0)) rfl ⟨(vin hi (by decide)), trivial⟩ ?_
        simp only [ci]
        show Rj _ _ _ _ _ _ (97, [some (.ref 100), some (.int (nI i)), some (.int (nI x))], [.int (I 114 i), .int (nI (farN x p))], (SS b c), I, J, 0, 0)
        refine r_icmp okX12_allows rfl (fun (h97 : (I 114 i) < (nI (farN x p))) => ?_) (fun (h97 : ¬ (I 114 i) < (nI (farN x p))) => ?_)
        · have h97N : ¬ farN x p ≤ y := fun z => absurd h97 (by rw [ey]; exact nI_nlt z (by omega))
          refine r_run okX12_allows 1 (cs := []) (σ' := (105, [some (.ref 100), some (.int (nI i)), some (.int (nI x))], [.int 0], (SS b c), I, J, 0, 0)) rfl trivial ?_
          refine r_iret okX12_allows rfl rfl (by decide +kernel) (Nat.le_refl _) (Nat.le_refl _) ?_
          refine ⟨?_, rfl, rfl, rfl⟩
          simp only [allB, eq, ep, nv_nI (show q < 2 ^ 31 by omega), nv_nI (show p < 2 ^ 31 by omega), em, nv_nI (show m < 2 ^ 31 by omega)]
          try simp only [ey, nv_nI (show y < 2 ^ 31 by omega)]
          simp [bi_t, bi_f, *]
        · have h97N : farN x p ≤ y := Nat.le_of_not_lt fun z => h97 (by rw [ey]; exact nI_lt z (by unfold farN dst; omega))
          refine r_run okX12_allows 2 (cs := []) (σ' := (105, [some (.ref 100), some (.int (nI i)), some (.int (nI x))], [.int 1], (SS b c), I, J, 0, 0)) rfl trivial ?_
          refine r_iret okX12_allows rfl rfl (by decide +kernel) (Nat.le_refl _) (Nat.le_refl _) ?_
          refine ⟨?_, rfl, rfl, rfl⟩
          simp only [allB, eq, ep, nv_nI (show q < 2 ^ 31 by omega), nv_nI (show p < 2 ^ 31 by omega), em, nv_nI (show m < 2 ^ 31 by omega)]
          try simp only [ey, nv_nI (show y < 2 ^ 31 by omega)]
          simp [bi_t, bi_f, *]
    · have h47 : (I 110 i) = (1 : Int32) := Classical.not_not.mp h470
      refine r_run okX12_allows 6 (cs := [vp_in (nI i) 300]) (σ' := (58, [some (.ref 100), some (.int (nI i)), some (.int (nI x))], [.int (nI x), .int (I 111 ((nI i).toNatClampNeg)), .ref 100], (SS b c), I, J, 0, 0)) rfl ⟨(vin hi (by decide)), trivial⟩ ?_
      simp only [ci]
      show Rj _ _ _ _ _ _ (58, [some (.ref 100), some (.int (nI i)), some (.int (nI x))], [.int (nI x), .int (I 111 i), .ref 100], (SS b c), I, J, 0, 0)
      refine r_callV okX12_allows okX12_sees [.int (I 111 i), .int (nI x)] [] 100 rfl rfl rfl kkX12_sees rfl rfl (by decide) rfl rfl rfl (by decide) ⟨Nat.le_refl _, Nat.le_refl _⟩ (Nat.le_of_ble_eq_true rfl) (c_sees γ hR hq hx eq rfl) (fun v1 S1 I1 J1 hp => ?_)
      obtain ⟨rfl, rfl, rfl, rfl⟩ := hp
      show Rj _ _ _ _ _ _ (61, [some (.ref 100), some (.int (nI i)), some (.int (nI x))], [.int (bi (seesB I q x))], (SS b c), I, J, 0, 0)
      refine r_ifc okX12_allows rfl (fun (h61 : ¬ (bi (seesB I q x)) = (0 : Int32)) => ?_) (fun h610 => ?_)
      · have h61s := bi_n0.mp h61
        refine r_run okX12_allows 1 (cs := []) (σ' := (69, [some (.ref 100), some (.int (nI i)), some (.int (nI x))], [.int 0], (SS b c), I, J, 0, 0)) rfl trivial ?_
        refine r_iret okX12_allows rfl rfl (by decide +kernel) (Nat.le_refl _) (Nat.le_refl _) ?_
        refine ⟨?_, rfl, rfl, rfl⟩
        simp only [allB, eq, ep, nv_nI (show q < 2 ^ 31 by omega), nv_nI (show p < 2 ^ 31 by omega), em, nv_nI (show m < 2 ^ 31 by omega)]
        try simp only [ey, nv_nI (show y < 2 ^ 31 by omega)]
        simp [bi_t, bi_f, *]
      · have h61 : (bi (seesB I q x)) = (0 : Int32) := Classical.not_not.mp h610
        have h61s := bi_0.mp h61
        refine r_run okX12_allows 2 (cs := []) (σ' := (69, [some (.ref 100), some (.int (nI i)), some (.int (nI x))], [.int 1], (SS b c), I, J, 0, 0)) rfl trivial ?_
        refine r_iret okX12_allows rfl rfl (by decide +kernel) (Nat.le_refl _) (Nat.le_refl _) ?_
        refine ⟨?_, rfl, rfl, rfl⟩
        simp only [allB, eq, ep, nv_nI (show q < 2 ^ 31 by omega), nv_nI (show p < 2 ^ 31 by omega), em, nv_nI (show m < 2 ^ 31 by omega)]
        try simp only [ey, nv_nI (show y < 2 ^ 31 by omega)]
        simp [bi_t, bi_f, *]
  · have h6 : (I 110 i) = (0 : Int32) := Classical.not_not.mp h60
    refine r_run okX12_allows 6 (cs := [vp_in (nI i) 300]) (σ' := (17, [some (.ref 100), some (.int (nI i)), some (.int (nI x))], [.int (I 113 ((nI i).toNatClampNeg)), .int (nI x), .ref 100], (SS b c), I, J, 0, 0)) rfl ⟨(vin hi (by decide)), trivial⟩ ?_
    simp only [ci]
    show Rj _ _ _ _ _ _ (17, [some (.ref 100), some (.int (nI i)), some (.int (nI x))], [.int (I 113 i), .int (nI x), .ref 100], (SS b c), I, J, 0, 0)
    refine r_callV okX12_allows okX12_far [.int (nI x), .int (I 113 i)] [] 100 rfl rfl rfl kkX12_far rfl rfl (by decide) rfl rfl rfl (by decide) ⟨Nat.le_refl _, Nat.le_refl _⟩ (Nat.le_of_ble_eq_true rfl) (c_far γ hx hp rfl ep) (fun v1 S1 I1 J1 hp => ?_)
    obtain ⟨rfl, rfl, rfl, rfl⟩ := hp
    show Rj _ _ _ _ _ _ (20, [some (.ref 100), some (.int (nI i)), some (.int (nI x))], [.int (nI (farN x p))], (SS b c), I, J, 0, 0)
    refine r_run okX12_allows 7 (cs := [vp_in (nI i) 300, vp_in (I 111 ((nI i).toNatClampNeg)) 3]) (σ' := (31, [some (.ref 100), some (.int (nI i)), some (.int (nI x))], [.int (I 108 ((I 111 ((nI i).toNatClampNeg)).toNatClampNeg)), .int (nI (farN x p))], (SS b c), I, J, 0, 0)) rfl ⟨(vin hi (by decide)), (by rw [cq1]; exact vin hq (by decide)), trivial⟩ ?_
    simp only [ci, cq]
    show Rj _ _ _ _ _ _ (31, [some (.ref 100), some (.int (nI i)), some (.int (nI x))], [.int (I 108 q), .int (nI (farN x p))], (SS b c), I, J, 0, 0)
    refine r_icmp okX12_allows rfl (fun (h31 : (I 108 q) < (nI (farN x p))) => ?_) (fun (h31 : ¬ (I 108 q) < (nI (farN x p))) => ?_)
    · have h31N : ¬ farN x p ≤ m := fun z => absurd h31 (by rw [em]; exact nI_nlt z (by omega))
      refine r_run okX12_allows 1 (cs := []) (σ' := (39, [some (.ref 100), some (.int (nI i)), some (.int (nI x))], [.int 0], (SS b c), I, J, 0, 0)) rfl trivial ?_
      refine r_iret okX12_allows rfl rfl (by decide +kernel) (Nat.le_refl _) (Nat.le_refl _) ?_
      refine ⟨?_, rfl, rfl, rfl⟩
      simp only [allB, eq, ep, nv_nI (show q < 2 ^ 31 by omega), nv_nI (show p < 2 ^ 31 by omega), em, nv_nI (show m < 2 ^ 31 by omega)]
      try simp only [ey, nv_nI (show y < 2 ^ 31 by omega)]
      simp [bi_t, bi_f, *]
    · have h31N : farN x p ≤ m := Nat.le_of_not_lt fun z => h31 (by rw [em]; exact nI_lt z (by unfold farN dst; omega))
      refine r_run okX12_allows 2 (cs := []) (σ' := (39, [some (.ref 100), some (.int (nI i)), some (.int (nI x))], [.int 1], (SS b c), I, J, 0, 0)) rfl trivial ?_
      refine r_iret okX12_allows rfl rfl (by decide +kernel) (Nat.le_refl _) (Nat.le_refl _) ?_
      refine ⟨?_, rfl, rfl, rfl⟩
      simp only [allB, eq, ep, nv_nI (show q < 2 ^ 31 by omega), nv_nI (show p < 2 ^ 31 by omega), em, nv_nI (show m < 2 ^ 31 by omega)]
      try simp only [ey, nv_nI (show y < 2 ^ 31 by omega)]
      simp [bi_t, bi_f, *]
