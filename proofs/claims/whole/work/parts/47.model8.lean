/-! ===== the reference: maybe, lastTold, countAt ===== -/
def askB (I : AI) (t k : Int32) : Bool := inB t 0 719 && inB k 0 (I 100 5)
theorem c_isAsked (γ : GE) {b c : Bool} {I : AI} {J : AJ} (t k : Int32) : Ct γ mX12_isAsked 1 0 0 [.ref 100, .int t, .int k] (SS b c) I J (rI (bi (askB I t k)) (SS b c) I J) := by
  refine ct_of okX12_isAsked (L := [some (.ref 100), some (.int t), some (.int k)]) (Nat.le_of_ble_eq_true rfl) rfl ?_
  refine r_run okX12_isAsked 4 (cs := []) (σ' := (6, [some (.ref 100), some (.int t), some (.int k)], [.int 719, .int 0, .int t, .ref 100], (SS b c), I, J, 0, 0)) rfl trivial ?_
  refine r_callV okX12_isAsked okX12_isIn [.int t, .int 0, .int 719] [] 100 rfl rfl rfl kkX12_isIn rfl rfl (by decide) rfl rfl rfl (by decide) ⟨Nat.le_refl _, Nat.le_refl _⟩ (Nat.le_of_ble_eq_true rfl) (c_isIn γ t 0 719) (fun v1 S1 I1 J1 hp => ?_)
  obtain ⟨rfl, rfl, rfl, rfl⟩ := hp
  show Rj _ _ _ _ _ _ (9, [some (.ref 100), some (.int t), some (.int k)], [.int (bi (inB t 0 719))], (SS b c), I, J, 0, 0)
  refine r_ifc okX12_isAsked rfl (fun (h9 : (bi (inB t 0 719)) = (0 : Int32)) => ?_) (fun (h9 : ¬ (bi (inB t 0 719)) = (0 : Int32)) => ?_)
  · have h9s := bi_0.mp h9
    refine r_run okX12_isAsked 1 (cs := []) (σ' := (30, [some (.ref 100), some (.int t), some (.int k)], [.int 0], (SS b c), I, J, 0, 0)) rfl trivial ?_
    refine r_iret okX12_isAsked rfl rfl (by decide +kernel) (Nat.le_refl _) (Nat.le_refl _) ?_
    exact ⟨by simp [askB, bi_t, bi_f, *], rfl, rfl, rfl⟩
  · have h9s := bi_n0.mp h9
    refine r_run okX12_isAsked 5 (cs := []) (σ' := (19, [some (.ref 100), some (.int t), some (.int k)], [.int (I 100 5), .int 0, .int k, .ref 100], (SS b c), I, J, 0, 0)) rfl trivial ?_
    refine r_callV okX12_isAsked okX12_isIn [.int k, .int 0, .int (I 100 5)] [] 100 rfl rfl rfl kkX12_isIn rfl rfl (by decide) rfl rfl rfl (by decide) ⟨Nat.le_refl _, Nat.le_refl _⟩ (Nat.le_of_ble_eq_true rfl) (c_isIn γ k 0 (I 100 5)) (fun v1 S1 I1 J1 hp => ?_)
    obtain ⟨rfl, rfl, rfl, rfl⟩ := hp
    show Rj _ _ _ _ _ _ (22, [some (.ref 100), some (.int t), some (.int k)], [.int (bi (inB k 0 (I 100 5)))], (SS b c), I, J, 0, 0)
    refine r_ifc okX12_isAsked rfl (fun (h22 : (bi (inB k 0 (I 100 5))) = (0 : Int32)) => ?_) (fun (h22 : ¬ (bi (inB k 0 (I 100 5))) = (0 : Int32)) => ?_)
    · have h22s := bi_0.mp h22
      refine r_run okX12_isAsked 1 (cs := []) (σ' := (30, [some (.ref 100), some (.int t), some (.int k)], [.int 0], (SS b c), I, J, 0, 0)) rfl trivial ?_
      refine r_iret okX12_isAsked rfl rfl (by decide +kernel) (Nat.le_refl _) (Nat.le_refl _) ?_
      exact ⟨by simp [askB, bi_t, bi_f, *], rfl, rfl, rfl⟩
    · have h22s := bi_n0.mp h22
      refine r_run okX12_isAsked 2 (cs := []) (σ' := (30, [some (.ref 100), some (.int t), some (.int k)], [.int 1], (SS b c), I, J, 0, 0)) rfl trivial ?_
      refine r_iret okX12_isAsked rfl rfl (by decide +kernel) (Nat.le_refl _) (Nat.le_refl _) ?_
      exact ⟨by simp [askB, bi_t, bi_f, *], rfl, rfl, rfl⟩
theorem c_findMaybe (γ : GE) {b c : Bool} {I : AI} {J : AJ} {T : Int32} (k : Int32) (hR : MRad I) (hT : MTel I) (hs : rg 720 (I 100 7)) (h : inB T 0 719 = true) : Ct γ mX12_findMaybe 3 0 0 [.ref 100, .int T, .int k] (SS b c) I J (rV (SS b c) (memM I k (nv T + 1)) J) := by
  obtain ⟨n, hn, rfl⟩ := in_nat h (n := 719) rfl (by decide)
  rw [nv_nI (by omega)]
  exact c_findMaybe0 γ n k (by omega) hR hT hs
theorem vin_tc {T X : Int32} (h : inB T 0 719 = true) (hx : cellB X = true) : vp_in ((96 * T) + X) 69120 ∧ ((96 * T) + X).toNatClampNeg = 96 * nv T + nv X := by
  obtain ⟨n, hn, rfl⟩ := in_nat h (n := 719) rfl (by decide)
  obtain ⟨y, hy, rfl⟩ := cell_nat hx
  rw [show (96 : Int32) * nI n + nI y = nI (96 * n + y) from mul_add_nI 96 n y]
  exact ⟨vin (by omega) (by decide), by rw [nI_clamp (by omega), nv_nI (by omega), nv_nI (by omega)]⟩
theorem cell_lt {X : Int32} (hx : cellB X = true) : nv X < 96 ∧ X = nI (nv X) := by
  obtain ⟨y, hy, rfl⟩ := cell_nat hx
  rw [nv_nI (by omega)]; exact ⟨hy, rfl⟩
def MBase (I : AI) : Prop := I 100 0 = 0 ∧ MRad I ∧ MTel I ∧ rg 720 (I 100 7) ∧ rg 720 (I 100 5)
theorem ask_1 {I : AI} {t k : Int32} (h : askB I t k = true) : inB t 0 719 = true := by unfold askB at h; rw [Bool.and_eq_true] at h; exact h.1
def mayV (I : AI) (t k x : Int32) : Int32 := if askB I t k && cellB x then bi (mayB I k (nv t) (nv x)) else -1
/-- it answers x; only the cell 116 of the ints may be another -/
def rI1 (x : Int32) (S : List Sh) (I : AI) (J : AJ) : PT := fun r S' I' J' => ∃ I1, rI x S I1 J r S' I' J' ∧ ∀ a, a ≠ 116 → I1 a = I a
theorem c_Mmaybe (γ : GE) {b c : Bool} {I : AI} {J : AJ} (hI : MBase I) (t k x : Int32) : Ct γ mX12_maybe 4 0 0 [.ref 100, .int t, .int k, .int x] (SS b c) I J (rI1 (mayV I t k x) (SS b c) I J) := by
  have ht := told0 hI.1
  refine ct_of okX12_maybe (L := [some (.ref 100), some (.int t), some (.int k), some (.int x)]) (Nat.le_of_ble_eq_true rfl) rfl ?_
  refine r_run okX12_maybe 6 (cs := []) (σ' := (8, [some (.ref 100), some (.int t), some (.int k), some (.int x)], [.int k, .int t, .ref 100], (SS b c), (upI I 100 0 0), J, 0, 0)) rfl trivial ?_
  simp only [ht]
  show Rj _ _ _ _ _ _ (8, [some (.ref 100), some (.int t), some (.int k), some (.int x)], [.int k, .int t, .ref 100], (SS b c), I, J, 0, 0)
  refine r_callV okX12_maybe okX12_isAsked [.int t, .int k] [] 100 rfl rfl rfl kkX12_isAsked rfl rfl (by decide) rfl rfl rfl (by decide) ⟨Nat.le_refl _, Nat.le_refl _⟩ (Nat.le_of_ble_eq_true rfl) (c_isAsked γ t k) (fun v1 S1 I1 J1 hp => ?_)
  obtain ⟨rfl, rfl, rfl, rfl⟩ := hp
  show Rj _ _ _ _ _ _ (11, [some (.ref 100), some (.int t), some (.int k), some (.int x)], [.int (bi (askB I t k))], (SS b c), I, J, 0, 0)
  refine r_ifc okX12_maybe rfl (fun (h11 : (bi (askB I t k)) = (0 : Int32)) => ?_) (fun (h11 : ¬ (bi (askB I t k)) = (0 : Int32)) => ?_)
  · have h11s := bi_0.mp h11
    refine r_run okX12_maybe 1 (cs := []) (σ' := (23, [some (.ref 100), some (.int t), some (.int k), some (.int x)], [.int (-1)], (SS b c), I, J, 0, 0)) rfl trivial ?_
    refine r_iret okX12_maybe rfl rfl rfl (Nat.le_refl _) (Nat.le_refl _) ?_
    refine ⟨_, ⟨?_, rfl, rfl, rfl⟩, ?_⟩
    · simp [mayV, bi_t, bi_f, *]
    · intro a ha; first | rfl | exact memM_ne ha
  · have h11s := bi_n0.mp h11
    refine r_run okX12_maybe 2 (cs := []) (σ' := (16, [some (.ref 100), some (.int t), some (.int k), some (.int x)], [.int x, .ref 100], (SS b c), I, J, 0, 0)) rfl trivial ?_
    refine r_callV okX12_maybe okX12_isCell [.int x] [] 100 rfl rfl rfl kkX12_isCell rfl rfl (by decide) rfl rfl rfl (by decide) ⟨Nat.le_refl _, Nat.le_refl _⟩ (Nat.le_of_ble_eq_true rfl) (c_isCell γ x) (fun v1 S1 I1 J1 hp => ?_)
    obtain ⟨rfl, rfl, rfl, rfl⟩ := hp
    show Rj _ _ _ _ _ _ (19, [some (.ref 100), some (.int t), some (.int k), some (.int x)], [.int (bi (cellB x))], (SS b c), I, J, 0, 0)
    refine r_ifc okX12_maybe rfl (fun (h19 : ¬ (bi (cellB x)) = (0 : Int32)) => ?_) (fun h190 => ?_)
    · have h19s := bi_n0.mp h19
      refine r_run okX12_maybe 3 (cs := []) (σ' := (27, [some (.ref 100), some (.int t), some (.int k), some (.int x)], [.int k, .int t, .ref 100], (SS b c), I, J, 0, 0)) rfl trivial ?_
      refine r_callV okX12_maybe okX12_findMaybe [.int t, .int k] [] 100 rfl rfl rfl kkX12_findMaybe rfl rfl (by decide) rfl rfl rfl (by decide) ⟨Nat.le_refl _, Nat.le_refl _⟩ (Nat.le_of_ble_eq_true rfl) (c_findMaybe γ k hI.2.1 hI.2.2.1 hI.2.2.2.1 (ask_1 h11s)) (fun v1 S1 I1 J1 hp => ?_)
      obtain ⟨rfl, rfl, rfl, rfl⟩ := hp
      show Rj _ _ _ _ _ _ (30, [some (.ref 100), some (.int t), some (.int k), some (.int x)], [], (SS b c), (memM I k (nv t + 1)), J, 0, 0)
      refine r_run okX12_maybe 8 (cs := [vp_in ((96 * t) + x) 69120]) (σ' := (41, [some (.ref 100), some (.int t), some (.int k), some (.int x)], [.int ((memM I k (nv t + 1)) 116 (((96 * t) + x).toNatClampNeg))], (SS b c), (memM I k (nv t + 1)), J, 0, 0)) rfl ⟨(vin_tc (ask_1 h11s) h19s).1, trivial⟩ ?_
      simp only [(vin_tc (ask_1 h11s) h19s).2, (memM_at (I := I) (k := k) (Nat.lt_succ_self (nv t)) (cell_lt h19s).1)]
      show Rj _ _ _ _ _ _ (41, [some (.ref 100), some (.int t), some (.int k), some (.int x)], [.int (bi (mayB I k (nv t) (nv x)))], (SS b c), (memM I k (nv t + 1)), J, 0, 0)
      refine r_ifc okX12_maybe rfl (fun (h41 : (bi (mayB I k (nv t) (nv x))) = (0 : Int32)) => ?_) (fun (h41 : ¬ (bi (mayB I k (nv t) (nv x))) = (0 : Int32)) => ?_)
      · have h41s := bi_0.mp h41
        refine r_run okX12_maybe 1 (cs := []) (σ' := (49, [some (.ref 100), some (.int t), some (.int k), some (.int x)], [.int 0], (SS b c), (memM I k (nv t + 1)), J, 0, 0)) rfl trivial ?_
        refine r_iret okX12_maybe rfl rfl rfl (Nat.le_refl _) (Nat.le_refl _) ?_
        refine ⟨_, ⟨?_, rfl, rfl, rfl⟩, ?_⟩
        · simp [mayV, bi_t, bi_f, *]
        · intro a ha; first | rfl | exact memM_ne ha
      · have h41s := bi_n0.mp h41
        refine r_run okX12_maybe 2 (cs := []) (σ' := (49, [some (.ref 100), some (.int t), some (.int k), some (.int x)], [.int 1], (SS b c), (memM I k (nv t + 1)), J, 0, 0)) rfl trivial ?_
        refine r_iret okX12_maybe rfl rfl rfl (Nat.le_refl _) (Nat.le_refl _) ?_
        refine ⟨_, ⟨?_, rfl, rfl, rfl⟩, ?_⟩
        · simp [mayV, bi_t, bi_f, *]
        · intro a ha; first | rfl | exact memM_ne ha
    · have h19 : (bi (cellB x)) = (0 : Int32) := Classical.not_not.mp h190
      have h19s := bi_0.mp h19
      refine r_run okX12_maybe 1 (cs := []) (σ' := (23, [some (.ref 100), some (.int t), some (.int k), some (.int x)], [.int (-1)], (SS b c), I, J, 0, 0)) rfl trivial ?_
      refine r_iret okX12_maybe rfl rfl rfl (Nat.le_refl _) (Nat.le_refl _) ?_
      refine ⟨_, ⟨?_, rfl, rfl, rfl⟩, ?_⟩
      · simp [mayV, bi_t, bi_f, *]
      · intro a ha; first | rfl | exact memM_ne ha
def cnt (f : Nat → Bool) : Nat → Nat
  | 0 => 0
  | n + 1 => cnt f n + (if f n then 1 else 0)
theorem cnt_le {f : Nat → Bool} : ∀ n, cnt f n ≤ n
  | 0 => Nat.le_refl _
  | n + 1 => by unfold cnt; have := cnt_le (f := f) n; split <;> omega
theorem lp_countAt (γ : GE) {b c : Bool} {I : AI} {J : AJ} (t : Nat) (f : Nat → Bool) (ht : t < 720) (hf : ∀ x, x < 96 → I 116 (96 * t + x) = bi (f x)) : ∀ (j q : Nat), q + j = 96 → Rj γ mX12_countAt 0 0 0 (rI (nI (cnt f 96)) (SS b c) I J) (4, [some (.ref 100), some (.int (nI t)), some (.int (nI (cnt f q))), some (.int (nI q))], [], (SS b c), I, J, 0, 0) := by
  intro j
  induction j with
  | zero =>
    intro q  hj
    refine r_run okX12_countAt 2 (cs := []) (σ' := (7, [some (.ref 100), some (.int (nI t)), some (.int (nI (cnt f q))), some (.int (nI q))], [.int 96, .int (nI q)], (SS b c), I, J, 0, 0)) rfl trivial ?_
    refine r_icmp okX12_countAt rfl (fun (h7 : (96 : Int32) ≤ (nI q)) => ?_) (fun (h7 : ¬ (96 : Int32) ≤ (nI q)) => ?_)
    · refine r_run okX12_countAt 1 (cs := []) (σ' := (35, [some (.ref 100), some (.int (nI t)), some (.int (nI (cnt f q))), some (.int (nI q))], [.int (nI (cnt f q))], (SS b c), I, J, 0, 0)) rfl trivial ?_
      refine r_iret okX12_countAt rfl rfl rfl (Nat.le_refl _) (Nat.le_refl _) ?_
      rw [show q = 96 by omega]
      exact ⟨rfl, rfl, rfl, rfl⟩
    · exact absurd (nI_le (a := 96) (by omega) (by omega)) h7
  | succ j ih =>
    intro q  hj
    have cq : ((96 : Int32) * nI t + nI q).toNatClampNeg = 96 * t + q := mul_ix (a := 96) (by omega)
    have rb := hf q (by omega)
    refine r_run okX12_countAt 2 (cs := []) (σ' := (7, [some (.ref 100), some (.int (nI t)), some (.int (nI (cnt f q))), some (.int (nI q))], [.int 96, .int (nI q)], (SS b c), I, J, 0, 0)) rfl trivial ?_
    refine r_icmp okX12_countAt rfl (fun (h7 : (96 : Int32) ≤ (nI q)) => ?_) (fun (h7 : ¬ (96 : Int32) ≤ (nI q)) => ?_)
    · exact absurd h7 (nI_ge (b := 96) (by omega) (by decide))
    · refine r_run okX12_countAt 8 (cs := [vp_in ((96 * (nI t)) + (nI q)) 69120]) (σ' := (21, [some (.ref 100), some (.int (nI t)), some (.int (nI (cnt f q))), some (.int (nI q))], [.int (I 116 (((96 * (nI t)) + (nI q)).toNatClampNeg))], (SS b c), I, J, 0, 0)) rfl ⟨(by rw [show (96 : Int32) * nI t + nI q = nI (96 * t + q) from mul_add_nI 96 t q]; exact vin (by omega) (by decide)), trivial⟩ ?_
      simp only [cq, rb]
      show Rj _ _ _ _ _ _ (21, [some (.ref 100), some (.int (nI t)), some (.int (nI (cnt f q))), some (.int (nI q))], [.int (bi (f q))], (SS b c), I, J, 0, 0)
      refine r_ifc okX12_countAt rfl (fun (h21 : (bi (f q)) = (0 : Int32)) => ?_) (fun (h21 : ¬ (bi (f q)) = (0 : Int32)) => ?_)
      · have hs := bi_0.mp h21
        have e : cnt f (q + 1) = cnt f q := by rw [cnt, hs]; simp
        refine r_run okX12_countAt 2 (cs := []) (σ' := (4, [some (.ref 100), some (.int (nI t)), some (.int (nI (cnt f q))), some (.int (nI q + 1))], [], (SS b c), I, J, 0, 0)) rfl trivial ?_
        rw [← nI_succ, ← e]
        exact ih (q + 1) (by omega)
      · have hs := bi_n0.mp h21
        have e : cnt f (q + 1) = cnt f q + 1 := by rw [cnt, hs]; simp
        refine r_run okX12_countAt 6 (cs := []) (σ' := (4, [some (.ref 100), some (.int (nI t)), some (.int ((nI (cnt f q)) + 1)), some (.int (nI q + 1))], [], (SS b c), I, J, 0, 0)) rfl trivial ?_
        rw [← nI_succ, ← nI_succ, ← e]
        exact ih (q + 1) (by omega)
theorem c_countAt0 (γ : GE) {b c : Bool} {I : AI} {J : AJ} (t : Nat) (f : Nat → Bool) (ht : t < 720) (hf : ∀ x, x < 96 → I 116 (96 * t + x) = bi (f x)) : Ct γ mX12_countAt 0 0 0 [.ref 100, .int (nI t)] (SS b c) I J (rI (nI (cnt f 96)) (SS b c) I J) := by
  refine ct_of okX12_countAt (L := [some (.ref 100), some (.int (nI t)), none, none]) (Nat.le_of_ble_eq_true rfl) rfl ?_
  refine r_run okX12_countAt 4 (cs := []) (σ' := (4, [some (.ref 100), some (.int (nI t)), some (.int 0), some (.int 0)], [], (SS b c), I, J, 0, 0)) rfl trivial ?_
  have h := lp_countAt γ (b := b) (c := c) (I := I) (J := J) t f ht hf 96 0 rfl
  rw [show cnt f 0 = 0 from rfl, nI_0] at h
  exact h
def lastV (I : AI) (k : Int32) : Nat → Int32
  | 0 => -1
  | i + 1 => if I 115 i ≤ k ∧ ¬ I 110 i = 3 ∧ lastV I k i < I 112 i then I 112 i else lastV I k i
theorem lp_lastTold (γ : GE) {b c : Bool} {I : AI} {J : AJ} (k : Int32) (m : Nat) (hm : m < 301) (em : I 100 13 = nI m) : ∀ (j i : Nat), i + j = m → Rj γ mX12_lastTold 0 0 0 (rI (lastV I k (nv (I 100 13))) (SS b c) I J) (4, [some (.ref 100), some (.int k), some (.int (lastV I k i)), some (.int (nI i))], [], (SS b c), I, J, 0, 0) := by
  intro j
  induction j with
  | zero =>
    intro i  hj
    refine r_run okX12_lastTold 3 (cs := []) (σ' := (9, [some (.ref 100), some (.int k), some (.int (lastV I k i)), some (.int (nI i))], [.int (I 100 13), .int (nI i)], (SS b c), I, J, 0, 0)) rfl trivial ?_
    refine r_icmp okX12_lastTold rfl (fun (h9 : (I 100 13) ≤ (nI i)) => ?_) (fun (h9 : ¬ (I 100 13) ≤ (nI i)) => ?_)
    · refine r_run okX12_lastTold 1 (cs := []) (σ' := (56, [some (.ref 100), some (.int k), some (.int (lastV I k i)), some (.int (nI i))], [.int (lastV I k i)], (SS b c), I, J, 0, 0)) rfl trivial ?_
      refine r_iret okX12_lastTold rfl rfl rfl (Nat.le_refl _) (Nat.le_refl _) ?_
      rw [show i = nv (I 100 13) by rw [em, nv_nI (by omega)]; omega]
      exact ⟨rfl, rfl, rfl, rfl⟩
    · exact absurd (by rw [em]; exact nI_le (by omega) (by omega)) h9
  | succ j ih =>
    intro i  hj
    have ci : (nI i).toNatClampNeg = i := nI_clamp (by omega)
    refine r_run okX12_lastTold 3 (cs := []) (σ' := (9, [some (.ref 100), some (.int k), some (.int (lastV I k i)), some (.int (nI i))], [.int (I 100 13), .int (nI i)], (SS b c), I, J, 0, 0)) rfl trivial ?_
    refine r_icmp okX12_lastTold rfl (fun (h9 : (I 100 13) ≤ (nI i)) => ?_) (fun (h9 : ¬ (I 100 13) ≤ (nI i)) => ?_)
    · exact absurd h9 (by rw [em]; exact nI_ge (by omega) (by omega))
    · refine r_run okX12_lastTold 5 (cs := [vp_in (nI i) 300]) (σ' := (19, [some (.ref 100), some (.int k), some (.int (lastV I k i)), some (.int (nI i))], [.int k, .int (I 115 ((nI i).toNatClampNeg))], (SS b c), I, J, 0, 0)) rfl ⟨(vin (by omega) (by decide)), trivial⟩ ?_
      simp only [ci]
      show Rj _ _ _ _ _ _ (19, [some (.ref 100), some (.int k), some (.int (lastV I k i)), some (.int (nI i))], [.int k, .int (I 115 i)], (SS b c), I, J, 0, 0)
      refine r_icmp okX12_lastTold rfl (fun (h19 : k < (I 115 i)) => ?_) (fun (h19 : ¬ k < (I 115 i)) => ?_)
      · refine r_run okX12_lastTold 2 (cs := []) (σ' := (4, [some (.ref 100), some (.int k), some (.int (lastV I k i)), some (.int (nI i + 1))], [], (SS b c), I, J, 0, 0)) rfl trivial ?_
        rw [← nI_succ]
        have e : lastV I k (i + 1) = (lastV I k i) := by
          rw [lastV]
          rw [if_neg (fun q => absurd h19 (Int32.not_lt.mpr q.1))]
        rw [← e]
        exact ih (i + 1) (by omega)
      · refine r_run okX12_lastTold 5 (cs := [vp_in (nI i) 300]) (σ' := (29, [some (.ref 100), some (.int k), some (.int (lastV I k i)), some (.int (nI i))], [.int 3, .int (I 110 ((nI i).toNatClampNeg))], (SS b c), I, J, 0, 0)) rfl ⟨(vin (by omega) (by decide)), trivial⟩ ?_
        simp only [ci]
        show Rj _ _ _ _ _ _ (29, [some (.ref 100), some (.int k), some (.int (lastV I k i)), some (.int (nI i))], [.int 3, .int (I 110 i)], (SS b c), I, J, 0, 0)
        refine r_icmp okX12_lastTold rfl (fun (h29 : (I 110 i) = (3 : Int32)) => ?_) (fun (h29 : ¬ (I 110 i) = (3 : Int32)) => ?_)
        · refine r_run okX12_lastTold 2 (cs := []) (σ' := (4, [some (.ref 100), some (.int k), some (.int (lastV I k i)), some (.int (nI i + 1))], [], (SS b c), I, J, 0, 0)) rfl trivial ?_
          rw [← nI_succ]
          have e : lastV I k (i + 1) = (lastV I k i) := by
            rw [lastV]
            rw [if_neg (fun q => q.2.1 h29)]
          rw [← e]
          exact ih (i + 1) (by omega)
        · refine r_run okX12_lastTold 5 (cs := [vp_in (nI i) 300]) (σ' := (39, [some (.ref 100), some (.int k), some (.int (lastV I k i)), some (.int (nI i))], [.int (lastV I k i), .int (I 112 ((nI i).toNatClampNeg))], (SS b c), I, J, 0, 0)) rfl ⟨(vin (by omega) (by decide)), trivial⟩ ?_
          simp only [ci]
          show Rj _ _ _ _ _ _ (39, [some (.ref 100), some (.int k), some (.int (lastV I k i)), some (.int (nI i))], [.int (lastV I k i), .int (I 112 i)], (SS b c), I, J, 0, 0)
          refine r_icmp okX12_lastTold rfl (fun (h39 : (I 112 i) ≤ (lastV I k i)) => ?_) (fun (h39 : ¬ (I 112 i) ≤ (lastV I k i)) => ?_)
          · refine r_run okX12_lastTold 2 (cs := []) (σ' := (4, [some (.ref 100), some (.int k), some (.int (lastV I k i)), some (.int (nI i + 1))], [], (SS b c), I, J, 0, 0)) rfl trivial ?_
            rw [← nI_succ]
            have e : lastV I k (i + 1) = (lastV I k i) := by
              rw [lastV]
              rw [if_neg (fun q => absurd h39 (Int32.not_le.mpr q.2.2))]
            rw [← e]
            exact ih (i + 1) (by omega)
          · refine r_run okX12_lastTold 7 (cs := [vp_in (nI i) 300]) (σ' := (4, [some (.ref 100), some (.int k), some (.int (I 112 ((nI i).toNatClampNeg))), some (.int (nI i + 1))], [], (SS b c), I, J, 0, 0)) rfl ⟨(vin (by omega) (by decide)), trivial⟩ ?_
            simp only [ci]
            show Rj _ _ _ _ _ _ (4, [some (.ref 100), some (.int k), some (.int (I 112 i)), some (.int (nI i + 1))], [], (SS b c), I, J, 0, 0)
            rw [← nI_succ]
            have e : lastV I k (i + 1) = (I 112 i) := by
              rw [lastV]
              rw [if_pos ⟨Int32.not_lt.mp h19, h29, Int32.not_le.mp h39⟩]
            rw [← e]
            exact ih (i + 1) (by omega)
theorem c_lastTold (γ : GE) {b c : Bool} {I : AI} {J : AJ} (hT : MTel I) (k : Int32) : Ct γ mX12_lastTold 0 0 0 [.ref 100, .int k] (SS b c) I J (rI (lastV I k (nv (I 100 13))) (SS b c) I J) := by
  refine ct_of okX12_lastTold (L := [some (.ref 100), some (.int k), none, none]) (Nat.le_of_ble_eq_true rfl) rfl ?_
  refine r_run okX12_lastTold 4 (cs := []) (σ' := (4, [some (.ref 100), some (.int k), some (.int (-1)), some (.int 0)], [], (SS b c), I, J, 0, 0)) rfl trivial ?_
  obtain ⟨m, hm, em⟩ := hT.1
  have h := lp_lastTold γ (b := b) (c := c) (I := I) (J := J) k m hm em m 0 (by omega)
  rw [show lastV I k 0 = -1 from rfl, nI_0] at h
  exact h
