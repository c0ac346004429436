/-! ===== the reference: post, posts ===== -/
def MPos (I : AI) : Prop := ∀ p, p < 8 → bz (I 140 p) ∧ rg 96 (I 141 p) ∧ rg 6 (I 142 p)
def posB (p x e : Int32) : Bool := inB p 0 7 && (cellB x && inB e 0 5)
def posN (I : AI) (p x e : Int32) : AI := if posB p x e then upI (upI (upI I 140 (nv p) 1) 141 (nv p) x) 142 (nv p) e else I
theorem c_Mpost (γ : GE) {b c : Bool} {I : AI} {J : AJ} (hT : I 100 0 = 0) (p x e : Int32) : Ct γ mX12_post 1 0 0 [.ref 100, .int p, .int x, .int e] (SS b c) I J (rI (bi (posB p x e)) (SS b c) (posN I p x e) J) := by
  have ht := told0 hT
  refine ct_of okX12_post (L := [some (.ref 100), some (.int p), some (.int x), some (.int e)]) (Nat.le_of_ble_eq_true rfl) rfl ?_
  refine r_run okX12_post 7 (cs := []) (σ' := (10, [some (.ref 100), some (.int p), some (.int x), some (.int e)], [.int 7, .int 0, .int p, .ref 100], (SS b c), (upI I 100 0 0), J, 0, 0)) rfl trivial ?_
  simp only [ht]
  show Rj _ _ _ _ _ _ (10, [some (.ref 100), some (.int p), some (.int x), some (.int e)], [.int 7, .int 0, .int p, .ref 100], (SS b c), I, J, 0, 0)
  refine r_callV okX12_post okX12_isIn [.int p, .int 0, .int 7] [] 100 rfl rfl rfl kkX12_isIn rfl rfl (by decide) rfl rfl rfl (by decide) ⟨Nat.le_refl _, Nat.le_refl _⟩ (Nat.le_of_ble_eq_true rfl) (c_isIn γ p 0 7) (fun v1 S1 I1 J1 hp => ?_)
  obtain ⟨rfl, rfl, rfl, rfl⟩ := hp
  show Rj _ _ _ _ _ _ (13, [some (.ref 100), some (.int p), some (.int x), some (.int e)], [.int (bi (inB p 0 7))], (SS b c), I, J, 0, 0)
  refine r_ifc okX12_post rfl (fun (h13 : (bi (inB p 0 7)) = (0 : Int32)) => ?_) (fun (h13 : ¬ (bi (inB p 0 7)) = (0 : Int32)) => ?_)
  · have h13s := bi_0.mp h13
    refine r_run okX12_post 1 (cs := []) (σ' := (35, [some (.ref 100), some (.int p), some (.int x), some (.int e)], [.int 0], (SS b c), I, J, 0, 0)) rfl trivial ?_
    refine r_iret okX12_post rfl rfl (by decide +kernel) (Nat.le_refl _) (Nat.le_refl _) ?_
    exact ⟨by simp [posB, bi_t, bi_f, *], rfl, by simp [posN, posB, nv, *], rfl⟩
  · have h13s := bi_n0.mp h13
    refine r_run okX12_post 2 (cs := []) (σ' := (18, [some (.ref 100), some (.int p), some (.int x), some (.int e)], [.int x, .ref 100], (SS b c), I, J, 0, 0)) rfl trivial ?_
    refine r_callV okX12_post okX12_isCell [.int x] [] 100 rfl rfl rfl kkX12_isCell rfl rfl (by decide) rfl rfl rfl (by decide) ⟨Nat.le_refl _, Nat.le_refl _⟩ (Nat.le_of_ble_eq_true rfl) (c_isCell γ x) (fun v1 S1 I1 J1 hp => ?_)
    obtain ⟨rfl, rfl, rfl, rfl⟩ := hp
    show Rj _ _ _ _ _ _ (21, [some (.ref 100), some (.int p), some (.int x), some (.int e)], [.int (bi (cellB x))], (SS b c), I, J, 0, 0)
    refine r_ifc okX12_post rfl (fun (h21 : (bi (cellB x)) = (0 : Int32)) => ?_) (fun (h21 : ¬ (bi (cellB x)) = (0 : Int32)) => ?_)
    · have h21s := bi_0.mp h21
      refine r_run okX12_post 1 (cs := []) (σ' := (35, [some (.ref 100), some (.int p), some (.int x), some (.int e)], [.int 0], (SS b c), I, J, 0, 0)) rfl trivial ?_
      refine r_iret okX12_post rfl rfl (by decide +kernel) (Nat.le_refl _) (Nat.le_refl _) ?_
      exact ⟨by simp [posB, bi_t, bi_f, *], rfl, by simp [posN, posB, nv, *], rfl⟩
    · have h21s := bi_n0.mp h21
      refine r_run okX12_post 4 (cs := []) (σ' := (28, [some (.ref 100), some (.int p), some (.int x), some (.int e)], [.int 5, .int 0, .int e, .ref 100], (SS b c), I, J, 0, 0)) rfl trivial ?_
      refine r_callV okX12_post okX12_isIn [.int e, .int 0, .int 5] [] 100 rfl rfl rfl kkX12_isIn rfl rfl (by decide) rfl rfl rfl (by decide) ⟨Nat.le_refl _, Nat.le_refl _⟩ (Nat.le_of_ble_eq_true rfl) (c_isIn γ e 0 5) (fun v1 S1 I1 J1 hp => ?_)
      obtain ⟨rfl, rfl, rfl, rfl⟩ := hp
      show Rj _ _ _ _ _ _ (31, [some (.ref 100), some (.int p), some (.int x), some (.int e)], [.int (bi (inB e 0 5))], (SS b c), I, J, 0, 0)
      refine r_ifc okX12_post rfl (fun (h31 : ¬ (bi (inB e 0 5)) = (0 : Int32)) => ?_) (fun h310 => ?_)
      · have h31s := bi_n0.mp h31
        refine r_run okX12_post 16 (cs := [vp_in p 8, bz 1, vp_in p 8, vp_in p 8]) (σ' := (58, [some (.ref 100), some (.int p), some (.int x), some (.int e)], [.int 1], (SS b c), (upI (upI (upI I 140 p.toNatClampNeg 1) 141 p.toNatClampNeg x) 142 p.toNatClampNeg e), J, 0, 0)) rfl ⟨(by obtain ⟨k, hk, rfl⟩ := in_nat h13s (n := 7) rfl (by decide); exact vin (by omega) (by decide)), (Or.inr rfl), (by obtain ⟨k, hk, rfl⟩ := in_nat h13s (n := 7) rfl (by decide); exact vin (by omega) (by decide)), (by obtain ⟨k, hk, rfl⟩ := in_nat h13s (n := 7) rfl (by decide); exact vin (by omega) (by decide)), trivial⟩ ?_
        refine r_iret okX12_post rfl rfl (by decide +kernel) (Nat.le_refl _) (Nat.le_refl _) ?_
        exact ⟨by simp [posB, bi_t, bi_f, *], rfl, by simp [posN, posB, nv, *], rfl⟩
      · have h31 : (bi (inB e 0 5)) = (0 : Int32) := Classical.not_not.mp h310
        have h31s := bi_0.mp h31
        refine r_run okX12_post 1 (cs := []) (σ' := (35, [some (.ref 100), some (.int p), some (.int x), some (.int e)], [.int 0], (SS b c), I, J, 0, 0)) rfl trivial ?_
        refine r_iret okX12_post rfl rfl (by decide +kernel) (Nat.le_refl _) (Nat.le_refl _) ?_
        exact ⟨by simp [posB, bi_t, bi_f, *], rfl, by simp [posN, posB, nv, *], rfl⟩
def onB (z : Int32) (p : Nat) : Bool := decide ((z >>> (nI p &&& 31)) &&& 1 = 1)
def watN (I : AI) (z : Int32) (x n : Nat) : Bool := (List.range n).any fun p => onB z p && decide (farN x (nv (I 141 p)) ≤ nv (I 142 p))
theorem wat_more {I : AI} {z : Int32} {x n m : Nat} (h : watN I z x n = true) (hm : n ≤ m) : watN I z x m = true := by
  unfold watN at *
  rw [List.any_eq_true] at *
  obtain ⟨y, hy, h⟩ := h
  exact ⟨y, List.mem_range.mpr (by have := List.mem_range.mp hy; omega), h⟩
theorem lp_wat (γ : GE) {b c : Bool} {I : AI} {J : AJ} (hP : MPos I) (z : Int32) (x : Nat) (hx : x < 96) : ∀ (j q : Nat), q + j = 8 → watN I z x q = false → Rj γ mX12_isWatched 1 0 0 (rI (bi (watN I z x 8)) (SS b c) I J) (2, [some (.ref 100), some (.int z), some (.int (nI x)), some (.int (nI q))], [], (SS b c), I, J, 0, 0) := by
  intro j
  induction j with
  | zero =>
    intro q hj hn
    refine r_run okX12_isWatched 2 (cs := []) (σ' := (5, [some (.ref 100), some (.int z), some (.int (nI x)), some (.int (nI q))], [.int 8, .int (nI q)], (SS b c), I, J, 0, 0)) rfl trivial ?_
    refine r_icmp okX12_isWatched rfl (fun (h5 : (8 : Int32) ≤ (nI q)) => ?_) (fun (h5 : ¬ (8 : Int32) ≤ (nI q)) => ?_)
    · refine r_run okX12_isWatched 1 (cs := []) (σ' := (46, [some (.ref 100), some (.int z), some (.int (nI x)), some (.int (nI q))], [.int 0], (SS b c), I, J, 0, 0)) rfl trivial ?_
      refine r_iret okX12_isWatched rfl rfl (by decide +kernel) (Nat.le_refl _) (Nat.le_refl _) ?_
      rw [show q = 8 by omega] at hn
      exact ⟨by rw [hn]; rfl, rfl, rfl, rfl⟩
    · exact absurd (nI_le (a := 8) (by omega) (by omega)) h5
  | succ j ih =>
    intro q hj hn
    have cq : (nI q).toNatClampNeg = q := nI_clamp (by omega)
    obtain ⟨-, ⟨a, ha, ea⟩, ⟨d, hd, ed⟩⟩ := hP q (by omega)
    refine r_run okX12_isWatched 2 (cs := []) (σ' := (5, [some (.ref 100), some (.int z), some (.int (nI x)), some (.int (nI q))], [.int 8, .int (nI q)], (SS b c), I, J, 0, 0)) rfl trivial ?_
    refine r_icmp okX12_isWatched rfl (fun (h5 : (8 : Int32) ≤ (nI q)) => ?_) (fun (h5 : ¬ (8 : Int32) ≤ (nI q)) => ?_)
    · exact absurd h5 (nI_ge (b := 8) (by omega) (by decide))
    · refine r_run okX12_isWatched 6 (cs := []) (σ' := (14, [some (.ref 100), some (.int z), some (.int (nI x)), some (.int (nI q))], [.int 1, .int ((z >>> ((nI q) &&& 31)) &&& 1)], (SS b c), I, J, 0, 0)) rfl trivial ?_
      refine r_icmp okX12_isWatched rfl (fun (h14 : ¬ ((z >>> ((nI q) &&& 31)) &&& 1) = (1 : Int32)) => ?_) (fun h140 => ?_)
      · have hon : onB z q = false := by simp [onB, h14]
        refine r_run okX12_isWatched 2 (cs := []) (σ' := (2, [some (.ref 100), some (.int z), some (.int (nI x)), some (.int (nI q + 1))], [], (SS b c), I, J, 0, 0)) rfl trivial ?_
        have hz : watN I z x (q + 1) = false := by unfold watN at hn ⊢; rw [any_s, hn, show nv (I 141 q) = a by rw [ea, nv_nI (by omega)], show nv (I 142 q) = d by rw [ed, nv_nI (by omega)]]; clear ea ed; simp [*]
        rw [← nI_succ]
        exact ih (q + 1) (by omega) hz
      · have h14 : ((z >>> ((nI q) &&& 31)) &&& 1) = (1 : Int32) := Classical.not_not.mp h140
        have hon : onB z q = true := by simp [onB, h14]
        refine r_run okX12_isWatched 6 (cs := [vp_in (nI q) 8]) (σ' := (25, [some (.ref 100), some (.int z), some (.int (nI x)), some (.int (nI q))], [.int (I 141 ((nI q).toNatClampNeg)), .int (nI x), .ref 100], (SS b c), I, J, 0, 0)) rfl ⟨(vin (by omega) (by decide)), trivial⟩ ?_
        simp only [cq]
        show Rj _ _ _ _ _ _ (25, [some (.ref 100), some (.int z), some (.int (nI x)), some (.int (nI q))], [.int (I 141 q), .int (nI x), .ref 100], (SS b c), I, J, 0, 0)
        refine r_callV okX12_isWatched okX12_far [.int (nI x), .int (I 141 q)] [] 100 rfl rfl rfl kkX12_far rfl rfl (by decide) rfl rfl rfl (by decide) ⟨Nat.le_refl _, Nat.le_refl _⟩ (Nat.le_of_ble_eq_true rfl) (c_far γ hx ha rfl ea) (fun v1 S1 I1 J1 hp => ?_)
        obtain ⟨rfl, rfl, rfl, rfl⟩ := hp
        show Rj _ _ _ _ _ _ (28, [some (.ref 100), some (.int z), some (.int (nI x)), some (.int (nI q))], [.int (nI (farN x a))], (SS b c), I, J, 0, 0)
        refine r_run okX12_isWatched 4 (cs := [vp_in (nI q) 8]) (σ' := (34, [some (.ref 100), some (.int z), some (.int (nI x)), some (.int (nI q))], [.int (I 142 ((nI q).toNatClampNeg)), .int (nI (farN x a))], (SS b c), I, J, 0, 0)) rfl ⟨(vin (by omega) (by decide)), trivial⟩ ?_
        simp only [cq]
        show Rj _ _ _ _ _ _ (34, [some (.ref 100), some (.int z), some (.int (nI x)), some (.int (nI q))], [.int (I 142 q), .int (nI (farN x a))], (SS b c), I, J, 0, 0)
        refine r_icmp okX12_isWatched rfl (fun (h34 : (I 142 q) < (nI (farN x a))) => ?_) (fun (h34 : ¬ (I 142 q) < (nI (farN x a))) => ?_)
        · have hN : ¬ farN x a ≤ d := fun z => absurd h34 (by rw [ed]; exact nI_nlt z (by omega))
          refine r_run okX12_isWatched 2 (cs := []) (σ' := (2, [some (.ref 100), some (.int z), some (.int (nI x)), some (.int (nI q + 1))], [], (SS b c), I, J, 0, 0)) rfl trivial ?_
          have hz : watN I z x (q + 1) = false := by unfold watN at hn ⊢; rw [any_s, hn, show nv (I 141 q) = a by rw [ea, nv_nI (by omega)], show nv (I 142 q) = d by rw [ed, nv_nI (by omega)]]; clear ea ed; simp [*]
          rw [← nI_succ]
          exact ih (q + 1) (by omega) hz
        · have hN : farN x a ≤ d := Nat.le_of_not_lt fun z => h34 (by rw [ed]; exact nI_lt z (by unfold farN dst; omega))
          refine r_run okX12_isWatched 1 (cs := []) (σ' := (38, [some (.ref 100), some (.int z), some (.int (nI x)), some (.int (nI q))], [.int 1], (SS b c), I, J, 0, 0)) rfl trivial ?_
          refine r_iret okX12_isWatched rfl rfl (by decide +kernel) (Nat.le_refl _) (Nat.le_refl _) ?_
          have hz : watN I z x (q + 1) = true := by unfold watN at hn ⊢; rw [any_s, hn, show nv (I 141 q) = a by rw [ea, nv_nI (by omega)], show nv (I 142 q) = d by rw [ed, nv_nI (by omega)]]; clear ea ed; simp [*]
          exact ⟨by rw [wat_more hz (by omega)]; rfl, rfl, rfl, rfl⟩
theorem c_isWatched (γ : GE) {b c : Bool} {I : AI} {J : AJ} (hP : MPos I) (z : Int32) (x : Nat) (hx : x < 96) : Ct γ mX12_isWatched 1 0 0 [.ref 100, .int z, .int (nI x)] (SS b c) I J (rI (bi (watN I z x 8)) (SS b c) I J) := by
  refine ct_of okX12_isWatched (L := [some (.ref 100), some (.int z), some (.int (nI x)), none]) (Nat.le_of_ble_eq_true rfl) rfl ?_
  refine r_run okX12_isWatched 2 (cs := []) (σ' := (2, [some (.ref 100), some (.int z), some (.int (nI x)), some (.int 0)], [], (SS b c), I, J, 0, 0)) rfl trivial ?_
  have h := lp_wat γ (b := b) (c := c) (I := I) (J := J) hP z x hx 8 0 rfl rfl
  rw [nI_0] at h
  exact h
def allP (I : AI) : Nat → Int32
  | 0 => 0
  | n + 1 => if I 140 n = 0 then allP I n else allP I n ||| ((1 : Int32) <<< (nI n &&& 31))
def gnB (I : AI) (s x : Nat) : Bool := watN I (nI s) x 8 && decide (seersV I x = 0)
def gnV (I : AI) (s : Nat) : Nat → Int32
  | 0 => 0
  | n + 1 => if gnB I s n then gnV I s n + I 102 n else gnV I s n
def pkB (I : AI) (k : Int32) (s : Nat) : Bool := decide (nI s &&& (allP I 8 ^^^ -1) = 0) && decide (nI (popN s) = k)
def psS (I : AI) (k : Int32) : Nat → Nat → Option Nat → Int32 → Nat → Option Nat × Int32 × Nat
  | 0, _, q, v, m => (q, v, m)
  | j + 1, s, q, v, m => if pkB I k s then (if q.isSome && (decide (gnV I s 96 < v) || (decide (gnV I s 96 = v) && decide (cnt (gnB I s) 96 ≤ m))) then psS I k j (s + 1) q v m else psS I k j (s + 1) (some s) (gnV I s 96) (cnt (gnB I s) 96)) else psS I k j (s + 1) q v m
def pstR (r : Option Nat × Int32 × Nat) (w : Int32) : Int32 := match r.1 with
  | none => -1
  | some s => if w = 0 then nI s else if w = 1 then r.2.1 else nI r.2.2
def pstV (I : AI) (k w : Int32) : Int32 := if inB k 0 8 && inB w 0 2 then pstR (psS I k 256 0 none 0 0) w else -1
theorem lp_all (γ : GE) {b c : Bool} {I : AI} {J : AJ} {Post : PT} (k w : Int32) (K : Rj γ mX12_posts 3 0 0 Post (63, [some (.ref 100), some (.int k), some (.int w), some (.int (allP I 8)), none, none, none, none, none, none, none], [], (SS b c), I, J, 0, 0)) : ∀ (j q : Nat), q + j = 8 → Rj γ mX12_posts 3 0 0 (Post) (33, [some (.ref 100), some (.int k), some (.int w), some (.int (allP I q)), some (.int (nI q)), none, none, none, none, none, none], [], (SS b c), I, J, 0, 0) := by
  intro j
  induction j with
  | zero =>
    intro q  hj
    refine r_run okX12_posts 2 (cs := []) (σ' := (37, [some (.ref 100), some (.int k), some (.int w), some (.int (allP I q)), some (.int (nI q)), none, none, none, none, none, none], [.int 8, .int (nI q)], (SS b c), I, J, 0, 0)) rfl trivial ?_
    refine r_icmp okX12_posts rfl (fun (h37 : (8 : Int32) ≤ (nI q)) => ?_) (fun (h37 : ¬ (8 : Int32) ≤ (nI q)) => ?_)
    · rw [show q = 8 by omega]
      refine r_weak (L' := [some (.ref 100), some (.int k), some (.int w), some (.int (allP I 8)), none, none, none, none, none, none, none]) ⟨rfl, rfl, rfl, rfl, trivial⟩ K
    · exact absurd (nI_le (a := 8) (by omega) (by omega)) h37
  | succ j ih =>
    intro q  hj
    have cq : (nI q).toNatClampNeg = q := nI_clamp (by omega)
    refine r_run okX12_posts 2 (cs := []) (σ' := (37, [some (.ref 100), some (.int k), some (.int w), some (.int (allP I q)), some (.int (nI q)), none, none, none, none, none, none], [.int 8, .int (nI q)], (SS b c), I, J, 0, 0)) rfl trivial ?_
    refine r_icmp okX12_posts rfl (fun (h37 : (8 : Int32) ≤ (nI q)) => ?_) (fun (h37 : ¬ (8 : Int32) ≤ (nI q)) => ?_)
    · exact absurd h37 (nI_ge (b := 8) (by omega) (by decide))
    · refine r_run okX12_posts 4 (cs := [vp_in (nI q) 8]) (σ' := (47, [some (.ref 100), some (.int k), some (.int w), some (.int (allP I q)), some (.int (nI q)), none, none, none, none, none, none], [.int (I 140 ((nI q).toNatClampNeg))], (SS b c), I, J, 0, 0)) rfl ⟨(vin (by omega) (by decide)), trivial⟩ ?_
      simp only [cq]
      show Rj _ _ _ _ _ _ (47, [some (.ref 100), some (.int k), some (.int w), some (.int (allP I q)), some (.int (nI q)), none, none, none, none, none, none], [.int (I 140 q)], (SS b c), I, J, 0, 0)
      refine r_ifc okX12_posts rfl (fun (h47 : (I 140 q) = (0 : Int32)) => ?_) (fun (h47 : ¬ (I 140 q) = (0 : Int32)) => ?_)
      · refine r_run okX12_posts 2 (cs := []) (σ' := (33, [some (.ref 100), some (.int k), some (.int w), some (.int (allP I q)), some (.int (nI q + 1)), none, none, none, none, none, none], [], (SS b c), I, J, 0, 0)) rfl trivial ?_
        have e : allP I (q + 1) = (allP I q) := by rw [allP]; simp [*]
        rw [← nI_succ, ← e]
        exact ih (q + 1) (by omega)
      · refine r_run okX12_posts 8 (cs := []) (σ' := (33, [some (.ref 100), some (.int k), some (.int w), some (.int ((allP I q) ||| ((1 : Int32) <<< ((nI q) &&& 31)))), some (.int (nI q + 1)), none, none, none, none, none, none], [], (SS b c), I, J, 0, 0)) rfl trivial ?_
        have e : allP I (q + 1) = ((allP I q) ||| ((1 : Int32) <<< ((nI q) &&& 31))) := by rw [allP]; simp [*]
        rw [← nI_succ, ← e]
        exact ih (q + 1) (by omega)
theorem lp_gain (γ : GE) {b c : Bool} {I : AI} {J : AJ} {Post : PT} (hP : MPos I) (hR : MRad I) (k w B most : Int32) (mc s : Nat) (K : Rj γ mX12_posts 3 0 0 Post (168, [some (.ref 100), some (.int k), some (.int w), some (.int (allP I 8)), some (.int B), some (.int most), some (.int (nI mc)), some (.int (nI s)), some (.int (gnV I s 96)), some (.int (nI (cnt (gnB I s) 96))), none], [], (SS b c), I, J, 0, 0)) : ∀ (j q : Nat), q + j = 96 → Rj γ mX12_posts 3 0 0 (Post) (114, [some (.ref 100), some (.int k), some (.int w), some (.int (allP I 8)), some (.int B), some (.int most), some (.int (nI mc)), some (.int (nI s)), some (.int (gnV I s q)), some (.int (nI (cnt (gnB I s) q))), some (.int (nI q))], [], (SS b c), I, J, 0, 0) := by
  intro j
  induction j with
  | zero =>
    intro q  hj
    refine r_run okX12_posts 2 (cs := []) (σ' := (118, [some (.ref 100), some (.int k), some (.int w), some (.int (allP I 8)), some (.int B), some (.int most), some (.int (nI mc)), some (.int (nI s)), some (.int (gnV I s q)), some (.int (nI (cnt (gnB I s) q))), some (.int (nI q))], [.int 96, .int (nI q)], (SS b c), I, J, 0, 0)) rfl trivial ?_
    refine r_icmp okX12_posts rfl (fun (h118 : (96 : Int32) ≤ (nI q)) => ?_) (fun (h118 : ¬ (96 : Int32) ≤ (nI q)) => ?_)
    · rw [show q = 96 by omega]
      refine r_weak (L' := [some (.ref 100), some (.int k), some (.int w), some (.int (allP I 8)), some (.int B), some (.int most), some (.int (nI mc)), some (.int (nI s)), some (.int (gnV I s 96)), some (.int (nI (cnt (gnB I s) 96))), none]) ⟨rfl, rfl, rfl, rfl, rfl, rfl, rfl, rfl, rfl, rfl, trivial⟩ K
    · exact absurd (nI_le (a := 96) (by omega) (by omega)) h118
  | succ j ih =>
    intro q  hj
    have cq : (nI q).toNatClampNeg = q := nI_clamp (by omega)
    refine r_run okX12_posts 2 (cs := []) (σ' := (118, [some (.ref 100), some (.int k), some (.int w), some (.int (allP I 8)), some (.int B), some (.int most), some (.int (nI mc)), some (.int (nI s)), some (.int (gnV I s q)), some (.int (nI (cnt (gnB I s) q))), some (.int (nI q))], [.int 96, .int (nI q)], (SS b c), I, J, 0, 0)) rfl trivial ?_
    refine r_icmp okX12_posts rfl (fun (h118 : (96 : Int32) ≤ (nI q)) => ?_) (fun (h118 : ¬ (96 : Int32) ≤ (nI q)) => ?_)
    · exact absurd h118 (nI_ge (b := 96) (by omega) (by decide))
    · refine r_run okX12_posts 3 (cs := []) (σ' := (126, [some (.ref 100), some (.int k), some (.int w), some (.int (allP I 8)), some (.int B), some (.int most), some (.int (nI mc)), some (.int (nI s)), some (.int (gnV I s q)), some (.int (nI (cnt (gnB I s) q))), some (.int (nI q))], [.int (nI q), .int (nI s), .ref 100], (SS b c), I, J, 0, 0)) rfl trivial ?_
      refine r_callV okX12_posts okX12_isWatched [.int (nI s), .int (nI q)] [] 100 rfl rfl rfl kkX12_isWatched rfl rfl (by decide) rfl rfl rfl (by decide) ⟨Nat.le_refl _, Nat.le_refl _⟩ (Nat.le_of_ble_eq_true rfl) (c_isWatched γ hP (nI s) q (by omega)) (fun v1 S1 I1 J1 hp => ?_)
      obtain ⟨rfl, rfl, rfl, rfl⟩ := hp
      show Rj _ _ _ _ _ _ (129, [some (.ref 100), some (.int k), some (.int w), some (.int (allP I 8)), some (.int B), some (.int most), some (.int (nI mc)), some (.int (nI s)), some (.int (gnV I s q)), some (.int (nI (cnt (gnB I s) q))), some (.int (nI q))], [.int (bi (watN I (nI s) q 8))], (SS b c), I, J, 0, 0)
      refine r_ifc okX12_posts rfl (fun (h129 : (bi (watN I (nI s) q 8)) = (0 : Int32)) => ?_) (fun (h129 : ¬ (bi (watN I (nI s) q 8)) = (0 : Int32)) => ?_)
      · have hs := bi_0.mp h129
        refine r_run okX12_posts 2 (cs := []) (σ' := (114, [some (.ref 100), some (.int k), some (.int w), some (.int (allP I 8)), some (.int B), some (.int most), some (.int (nI mc)), some (.int (nI s)), some (.int (gnV I s q)), some (.int (nI (cnt (gnB I s) q))), some (.int (nI q + 1))], [], (SS b c), I, J, 0, 0)) rfl trivial ?_
        have hg : gnB I s q = false := by unfold gnB; simp [*]
        have e1 : gnV I s (q + 1) = (gnV I s q) := by rw [gnV, hg]; rfl
        have e2 : cnt (gnB I s) (q + 1) = cnt (gnB I s) q := by rw [cnt, hg]; rfl
        simp only [← nI_succ]
        rw [← e1, ← e2]
        exact ih (q + 1) (by omega)
      · have hs := bi_n0.mp h129
        refine r_run okX12_posts 2 (cs := []) (σ' := (135, [some (.ref 100), some (.int k), some (.int w), some (.int (allP I 8)), some (.int B), some (.int most), some (.int (nI mc)), some (.int (nI s)), some (.int (gnV I s q)), some (.int (nI (cnt (gnB I s) q))), some (.int (nI q))], [.int (nI q), .ref 100], (SS b c), I, J, 0, 0)) rfl trivial ?_
        refine r_callV okX12_posts okX12_seers [.int (nI q)] [] 100 rfl rfl rfl kkX12_seers rfl rfl (by decide) rfl rfl rfl (by decide) ⟨Nat.le_refl _, Nat.le_refl _⟩ (Nat.le_of_ble_eq_true rfl) (c_seers0 γ hR q (by omega)) (fun v1 S1 I1 J1 hp => ?_)
        obtain ⟨rfl, rfl, rfl, rfl⟩ := hp
        show Rj _ _ _ _ _ _ (138, [some (.ref 100), some (.int k), some (.int w), some (.int (allP I 8)), some (.int B), some (.int most), some (.int (nI mc)), some (.int (nI s)), some (.int (gnV I s q)), some (.int (nI (cnt (gnB I s) q))), some (.int (nI q))], [.int (seersV I q)], (SS b c), I, J, 0, 0)
        refine r_ifc okX12_posts rfl (fun (h138 : (seersV I q) = (0 : Int32)) => ?_) (fun (h138 : ¬ (seersV I q) = (0 : Int32)) => ?_)
        · refine r_run okX12_posts 13 (cs := [vp_in (nI q) 96]) (σ' := (114, [some (.ref 100), some (.int k), some (.int w), some (.int (allP I 8)), some (.int B), some (.int most), some (.int (nI mc)), some (.int (nI s)), some (.int ((gnV I s q) + (I 102 ((nI q).toNatClampNeg)))), some (.int ((nI (cnt (gnB I s) q)) + 1)), some (.int (nI q + 1))], [], (SS b c), I, J, 0, 0)) rfl ⟨(vin (by omega) (by decide)), trivial⟩ ?_
          simp only [cq]
          show Rj _ _ _ _ _ _ (114, [some (.ref 100), some (.int k), some (.int w), some (.int (allP I 8)), some (.int B), some (.int most), some (.int (nI mc)), some (.int (nI s)), some (.int ((gnV I s q) + (I 102 q))), some (.int ((nI (cnt (gnB I s) q)) + 1)), some (.int (nI q + 1))], [], (SS b c), I, J, 0, 0)
          have hg : gnB I s q = true := by unfold gnB; simp [*]
          have e1 : gnV I s (q + 1) = ((gnV I s q) + (I 102 q)) := by rw [gnV, hg]; rfl
          have e2 : cnt (gnB I s) (q + 1) = cnt (gnB I s) q + 1 := by rw [cnt, hg]; rfl
          simp only [← nI_succ]
          rw [← e1, ← e2]
          exact ih (q + 1) (by omega)
        · refine r_run okX12_posts 3 (cs := []) (σ' := (114, [some (.ref 100), some (.int k), some (.int w), some (.int (allP I 8)), some (.int B), some (.int most), some (.int (nI mc)), some (.int (nI s)), some (.int (gnV I s q)), some (.int (nI (cnt (gnB I s) q))), some (.int (nI q + 1))], [], (SS b c), I, J, 0, 0)) rfl trivial ?_
          have hg : gnB I s q = false := by unfold gnB; simp [*]
          have e1 : gnV I s (q + 1) = (gnV I s q) := by rw [gnV, hg]; rfl
          have e2 : cnt (gnB I s) (q + 1) = cnt (gnB I s) q := by rw [cnt, hg]; rfl
          simp only [← nI_succ]
          rw [← e1, ← e2]
          exact ih (q + 1) (by omega)
theorem lp_posts (γ : GE) {b c : Bool} {I : AI} {J : AJ} (hP : MPos I) (hR : MRad I) (k w : Int32) : ∀ (j s : Nat) (best : Option Nat) (most : Int32) (mc : Nat), s + j = 256 → (∀ q, best = some q → q < 256) → mc ≤ 96 → Rj γ mX12_posts 3 0 0 (rI (pstR (psS I k j s best most mc) w) (SS b c) I J) (75, [some (.ref 100), some (.int k), some (.int w), some (.int (allP I 8)), some (.int (bsI best)), some (.int most), some (.int (nI mc)), some (.int (nI s)), none, none, none], [], (SS b c), I, J, 0, 0) := by
  intro j
  induction j with
  | zero =>
    intro s best most mc hj hb hm
    cases best with
    | none =>
      refine r_run okX12_posts 2 (cs := []) (σ' := (80, [some (.ref 100), some (.int k), some (.int w), some (.int (allP I 8)), some (.int (-1)), some (.int most), some (.int (nI mc)), some (.int (nI s)), none, none, none], [.int 256, .int (nI s)], (SS b c), I, J, 0, 0)) rfl trivial ?_
      refine r_icmp okX12_posts rfl (fun (h80 : (256 : Int32) ≤ (nI s)) => ?_) (fun (h80 : ¬ (256 : Int32) ≤ (nI s)) => ?_)
      · refine r_run okX12_posts 2 (cs := []) (σ' := (219, [some (.ref 100), some (.int k), some (.int w), some (.int (allP I 8)), some (.int (-1)), some (.int most), some (.int (nI mc)), some (.int (nI s)), none, none, none], [.int (-1), .int (-1)], (SS b c), I, J, 0, 0)) rfl trivial ?_
        refine r_icmp okX12_posts rfl (fun (h219 : ¬ ((-1) : Int32) = ((-1) : Int32)) => ?_) (fun h2190 => ?_)
        · exact absurd h219 (by decide)
        · have h219 : ((-1) : Int32) = ((-1) : Int32) := Classical.not_not.mp h2190
          refine r_run okX12_posts 1 (cs := []) (σ' := (223, [some (.ref 100), some (.int k), some (.int w), some (.int (allP I 8)), some (.int (-1)), some (.int most), some (.int (nI mc)), some (.int (nI s)), none, none, none], [.int (-1)], (SS b c), I, J, 0, 0)) rfl trivial ?_
          refine r_iret okX12_posts rfl rfl rfl (Nat.le_refl _) (Nat.le_refl _) ?_
          exact ⟨by simp [psS, pstR, *], rfl, rfl, rfl⟩
      · exact absurd (nI_le (a := 256) (by omega) (by omega)) h80
    | some q =>
      have hq := hb q rfl
      refine r_run okX12_posts 2 (cs := []) (σ' := (80, [some (.ref 100), some (.int k), some (.int w), some (.int (allP I 8)), some (.int (nI q)), some (.int most), some (.int (nI mc)), some (.int (nI s)), none, none, none], [.int 256, .int (nI s)], (SS b c), I, J, 0, 0)) rfl trivial ?_
      refine r_icmp okX12_posts rfl (fun (h80 : (256 : Int32) ≤ (nI s)) => ?_) (fun (h80 : ¬ (256 : Int32) ≤ (nI s)) => ?_)
      · refine r_run okX12_posts 2 (cs := []) (σ' := (219, [some (.ref 100), some (.int k), some (.int w), some (.int (allP I 8)), some (.int (nI q)), some (.int most), some (.int (nI mc)), some (.int (nI s)), none, none, none], [.int (-1), .int (nI q)], (SS b c), I, J, 0, 0)) rfl trivial ?_
        refine r_icmp okX12_posts rfl (fun (h219 : ¬ (nI q) = ((-1) : Int32)) => ?_) (fun h2190 => ?_)
        · refine r_run okX12_posts 1 (cs := []) (σ' := (225, [some (.ref 100), some (.int k), some (.int w), some (.int (allP I 8)), some (.int (nI q)), some (.int most), some (.int (nI mc)), some (.int (nI s)), none, none, none], [.int w], (SS b c), I, J, 0, 0)) rfl trivial ?_
          refine r_ifc okX12_posts rfl (fun (h225 : ¬ w = (0 : Int32)) => ?_) (fun h2250 => ?_)
          · refine r_run okX12_posts 2 (cs := []) (σ' := (235, [some (.ref 100), some (.int k), some (.int w), some (.int (allP I 8)), some (.int (nI q)), some (.int most), some (.int (nI mc)), some (.int (nI s)), none, none, none], [.int 1, .int w], (SS b c), I, J, 0, 0)) rfl trivial ?_
            refine r_icmp okX12_posts rfl (fun (h235 : ¬ w = (1 : Int32)) => ?_) (fun h2350 => ?_)
            · refine r_run okX12_posts 1 (cs := []) (σ' := (245, [some (.ref 100), some (.int k), some (.int w), some (.int (allP I 8)), some (.int (nI q)), some (.int most), some (.int (nI mc)), some (.int (nI s)), none, none, none], [.int (nI mc)], (SS b c), I, J, 0, 0)) rfl trivial ?_
              refine r_iret okX12_posts rfl rfl rfl (Nat.le_refl _) (Nat.le_refl _) ?_
              exact ⟨by simp [psS, pstR, *], rfl, rfl, rfl⟩
            · have h235 : w = (1 : Int32) := Classical.not_not.mp h2350
              refine r_run okX12_posts 2 (cs := []) (σ' := (245, [some (.ref 100), some (.int k), some (.int w), some (.int (allP I 8)), some (.int (nI q)), some (.int most), some (.int (nI mc)), some (.int (nI s)), none, none, none], [.int most], (SS b c), I, J, 0, 0)) rfl trivial ?_
              refine r_iret okX12_posts rfl rfl rfl (Nat.le_refl _) (Nat.le_refl _) ?_
              exact ⟨by simp [psS, pstR, *], rfl, rfl, rfl⟩
          · have h225 : w = (0 : Int32) := Classical.not_not.mp h2250
            refine r_run okX12_posts 2 (cs := []) (σ' := (245, [some (.ref 100), some (.int k), some (.int w), some (.int (allP I 8)), some (.int (nI q)), some (.int most), some (.int (nI mc)), some (.int (nI s)), none, none, none], [.int (nI q)], (SS b c), I, J, 0, 0)) rfl trivial ?_
            refine r_iret okX12_posts rfl rfl rfl (Nat.le_refl _) (Nat.le_refl _) ?_
            exact ⟨by simp [psS, pstR, *], rfl, rfl, rfl⟩
        · have h219 : (nI q) = ((-1) : Int32) := Classical.not_not.mp h2190
          exact absurd h219 (nI_m1 (by omega))
      · exact absurd (nI_le (a := 256) (by omega) (by omega)) h80
  | succ j ih =>
    intro s best most mc hj hb hm
    cases best with
    | none =>
      refine r_run okX12_posts 2 (cs := []) (σ' := (80, [some (.ref 100), some (.int k), some (.int w), some (.int (allP I 8)), some (.int (-1)), some (.int most), some (.int (nI mc)), some (.int (nI s)), none, none, none], [.int 256, .int (nI s)], (SS b c), I, J, 0, 0)) rfl trivial ?_
      refine r_icmp okX12_posts rfl (fun (h80 : (256 : Int32) ≤ (nI s)) => ?_) (fun (h80 : ¬ (256 : Int32) ≤ (nI s)) => ?_)
      · exact absurd h80 (nI_ge (b := 256) (by omega) (by decide))
      · refine r_run okX12_posts 5 (cs := []) (σ' := (89, [some (.ref 100), some (.int k), some (.int w), some (.int (allP I 8)), some (.int (-1)), some (.int most), some (.int (nI mc)), some (.int (nI s)), none, none, none], [.int ((nI s) &&& ((allP I 8) ^^^ (-1)))], (SS b c), I, J, 0, 0)) rfl trivial ?_
        refine r_ifc okX12_posts rfl (fun (h89 : ¬ ((nI s) &&& ((allP I 8) ^^^ (-1))) = (0 : Int32)) => ?_) (fun h890 => ?_)
        · refine r_run okX12_posts 2 (cs := []) (σ' := (75, [some (.ref 100), some (.int k), some (.int w), some (.int (allP I 8)), some (.int (-1)), some (.int most), some (.int (nI mc)), some (.int (nI s + 1)), none, none, none], [], (SS b c), I, J, 0, 0)) rfl trivial ?_
          rw [← nI_succ]
          have hk : pkB I k s = false := by unfold pkB; rw [decide_eq_false h89]; rfl
          have e : psS I k (j + 1) s none most mc = psS I k j (s + 1) none most mc := by rw [psS]; simp [*]
          rw [e]
          exact ih (s + 1) none _ _ (by omega) hb hm
        · have h89 : ((nI s) &&& ((allP I 8) ^^^ (-1))) = (0 : Int32) := Classical.not_not.mp h890
          refine r_run okX12_posts 2 (cs := []) (σ' := (95, [some (.ref 100), some (.int k), some (.int w), some (.int (allP I 8)), some (.int (-1)), some (.int most), some (.int (nI mc)), some (.int (nI s)), none, none, none], [.int (nI s), .ref 100], (SS b c), I, J, 0, 0)) rfl trivial ?_
          refine r_callV okX12_posts okX12_ones [.int (nI s)] [] 100 rfl rfl rfl kkX12_ones rfl rfl (by decide) rfl rfl rfl (by decide) ⟨Nat.le_refl _, Nat.le_refl _⟩ (Nat.le_of_ble_eq_true rfl) (c_ones γ s (by omega)) (fun v1 S1 I1 J1 hp => ?_)
          obtain ⟨rfl, rfl, rfl, rfl⟩ := hp
          show Rj _ _ _ _ _ _ (98, [some (.ref 100), some (.int k), some (.int w), some (.int (allP I 8)), some (.int (-1)), some (.int most), some (.int (nI mc)), some (.int (nI s)), none, none, none], [.int (nI (popN s))], (SS b c), I, J, 0, 0)
          refine r_run okX12_posts 1 (cs := []) (σ' := (99, [some (.ref 100), some (.int k), some (.int w), some (.int (allP I 8)), some (.int (-1)), some (.int most), some (.int (nI mc)), some (.int (nI s)), none, none, none], [.int k, .int (nI (popN s))], (SS b c), I, J, 0, 0)) rfl trivial ?_
          refine r_icmp okX12_posts rfl (fun (h99 : (nI (popN s)) = k) => ?_) (fun (h99 : ¬ (nI (popN s)) = k) => ?_)
          · refine r_run okX12_posts 6 (cs := []) (σ' := (114, [some (.ref 100), some (.int k), some (.int w), some (.int (allP I 8)), some (.int (-1)), some (.int most), some (.int (nI mc)), some (.int (nI s)), some (.int 0), some (.int 0), some (.int 0)], [], (SS b c), I, J, 0, 0)) rfl trivial ?_
            have hk : pkB I k s = true := by unfold pkB; rw [decide_eq_true h89, decide_eq_true h99]; rfl
            have h := lp_gain γ (b := b) (c := c) (I := I) (J := J) (Post := rI (pstR (psS I k (j + 1) s none most mc) w) (SS b c) I J) hP hR k w ((-1)) most mc s ?_ 96 0 rfl
            · rw [show gnV I s 0 = 0 from rfl, show cnt (gnB I s) 0 = 0 from rfl, nI_0] at h
              exact h
            · refine r_run okX12_posts 2 (cs := []) (σ' := (171, [some (.ref 100), some (.int k), some (.int w), some (.int (allP I 8)), some (.int (-1)), some (.int most), some (.int (nI mc)), some (.int (nI s)), some (.int (gnV I s 96)), some (.int (nI (cnt (gnB I s) 96))), none], [.int (-1), .int (-1)], (SS b c), I, J, 0, 0)) rfl trivial ?_
              refine r_icmp okX12_posts rfl (fun (h171 : ((-1) : Int32) = ((-1) : Int32)) => ?_) (fun (h171 : ¬ ((-1) : Int32) = ((-1) : Int32)) => ?_)
              · refine r_run okX12_posts 8 (cs := []) (σ' := (75, [some (.ref 100), some (.int k), some (.int w), some (.int (allP I 8)), some (.int (nI s)), some (.int (gnV I s 96)), some (.int (nI (cnt (gnB I s) 96))), some (.int (nI s + 1)), some (.int (gnV I s 96)), some (.int (nI (cnt (gnB I s) 96))), none], [], (SS b c), I, J, 0, 0)) rfl trivial ?_
                rw [← nI_succ]
                refine r_weak (L' := [some (.ref 100), some (.int k), some (.int w), some (.int (allP I 8)), some (.int (nI s)), some (.int (gnV I s 96)), some (.int (nI (cnt (gnB I s) 96))), some (.int (nI (s + 1))), none, none, none]) ⟨rfl, rfl, rfl, rfl, rfl, rfl, rfl, rfl, trivial⟩ ?_
                have e : psS I k (j + 1) s none most mc = psS I k j (s + 1) (some s) (gnV I s 96) (cnt (gnB I s) 96) := by rw [psS]; simp [*]
                rw [e]
                exact ih (s + 1) (some s) _ _ (by omega) (fun q e => by cases e; omega) (cnt_le 96)
              · exact absurd h171 (by decide)
          · refine r_run okX12_posts 3 (cs := []) (σ' := (75, [some (.ref 100), some (.int k), some (.int w), some (.int (allP I 8)), some (.int (-1)), some (.int most), some (.int (nI mc)), some (.int (nI s + 1)), none, none, none], [], (SS b c), I, J, 0, 0)) rfl trivial ?_
            rw [← nI_succ]
            have hk : pkB I k s = false := by unfold pkB; rw [decide_eq_true h89, decide_eq_false h99]; rfl
            have e : psS I k (j + 1) s none most mc = psS I k j (s + 1) none most mc := by rw [psS]; simp [*]
            rw [e]
            exact ih (s + 1) none _ _ (by omega) hb hm
    | some q =>
      have hq := hb q rfl
      refine r_run okX12_posts 2 (cs := []) (σ' := (80, [some (.ref 100), some (.int k), some (.int w), some (.int (allP I 8)), some (.int (nI q)), some (.int most), some (.int (nI mc)), some (.int (nI s)), none, none, none], [.int 256, .int (nI s)], (SS b c), I, J, 0, 0)) rfl trivial ?_
      refine r_icmp okX12_posts rfl (fun (h80 : (256 : Int32) ≤ (nI s)) => ?_) (fun (h80 : ¬ (256 : Int32) ≤ (nI s)) => ?_)
      · exact absurd h80 (nI_ge (b := 256) (by omega) (by decide))
      · refine r_run okX12_posts 5 (cs := []) (σ' := (89, [some (.ref 100), some (.int k), some (.int w), some (.int (allP I 8)), some (.int (nI q)), some (.int most), some (.int (nI mc)), some (.int (nI s)), none, none, none], [.int ((nI s) &&& ((allP I 8) ^^^ (-1)))], (SS b c), I, J, 0, 0)) rfl trivial ?_
        refine r_ifc okX12_posts rfl (fun (h89 : ¬ ((nI s) &&& ((allP I 8) ^^^ (-1))) = (0 : Int32)) => ?_) (fun h890 => ?_)
        · refine r_run okX12_posts 2 (cs := []) (σ' := (75, [some (.ref 100), some (.int k), some (.int w), some (.int (allP I 8)), some (.int (nI q)), some (.int most), some (.int (nI mc)), some (.int (nI s + 1)), none, none, none], [], (SS b c), I, J, 0, 0)) rfl trivial ?_
          rw [← nI_succ]
          have hk : pkB I k s = false := by unfold pkB; rw [decide_eq_false h89]; rfl
          have e : psS I k (j + 1) s (some q) most mc = psS I k j (s + 1) (some q) most mc := by rw [psS]; simp [*]
          rw [e]
          exact ih (s + 1) (some q) _ _ (by omega) hb hm
        · have h89 : ((nI s) &&& ((allP I 8) ^^^ (-1))) = (0 : Int32) := Classical.not_not.mp h890
          refine r_run okX12_posts 2 (cs := []) (σ' := (95, [some (.ref 100), some (.int k), some (.int w), some (.int (allP I 8)), some (.int (nI q)), some (.int most), some (.int (nI mc)), some (.int (nI s)), none, none, none], [.int (nI s), .ref 100], (SS b c), I, J, 0, 0)) rfl trivial ?_
          refine r_callV okX12_posts okX12_ones [.int (nI s)] [] 100 rfl rfl rfl kkX12_ones rfl rfl (by decide) rfl rfl rfl (by decide) ⟨Nat.le_refl _, Nat.le_refl _⟩ (Nat.le_of_ble_eq_true rfl) (c_ones γ s (by omega)) (fun v1 S1 I1 J1 hp => ?_)
          obtain ⟨rfl, rfl, rfl, rfl⟩ := hp
          show Rj _ _ _ _ _ _ (98, [some (.ref 100), some (.int k), some (.int w), some (.int (allP I 8)), some (.int (nI q)), some (.int most), some (.int (nI mc)), some (.int (nI s)), none, none, none], [.int (nI (popN s))], (SS b c), I, J, 0, 0)
          refine r_run okX12_posts 1 (cs := []) (σ' := (99, [some (.ref 100), some (.int k), some (.int w), some (.int (allP I 8)), some (.int (nI q)), some (.int most), some (.int (nI mc)), some (.int (nI s)), none, none, none], [.int k, .int (nI (popN s))], (SS b c), I, J, 0, 0)) rfl trivial ?_
          refine r_icmp okX12_posts rfl (fun (h99 : (nI (popN s)) = k) => ?_) (fun (h99 : ¬ (nI (popN s)) = k) => ?_)
          · refine r_run okX12_posts 6 (cs := []) (σ' := (114, [some (.ref 100), some (.int k), some (.int w), some (.int (allP I 8)), some (.int (nI q)), some (.int most), some (.int (nI mc)), some (.int (nI s)), some (.int 0), some (.int 0), some (.int 0)], [], (SS b c), I, J, 0, 0)) rfl trivial ?_
            have hk : pkB I k s = true := by unfold pkB; rw [decide_eq_true h89, decide_eq_true h99]; rfl
            have h := lp_gain γ (b := b) (c := c) (I := I) (J := J) (Post := rI (pstR (psS I k (j + 1) s (some q) most mc) w) (SS b c) I J) hP hR k w (nI q) most mc s ?_ 96 0 rfl
            · rw [show gnV I s 0 = 0 from rfl, show cnt (gnB I s) 0 = 0 from rfl, nI_0] at h
              exact h
            · refine r_run okX12_posts 2 (cs := []) (σ' := (171, [some (.ref 100), some (.int k), some (.int w), some (.int (allP I 8)), some (.int (nI q)), some (.int most), some (.int (nI mc)), some (.int (nI s)), some (.int (gnV I s 96)), some (.int (nI (cnt (gnB I s) 96))), none], [.int (-1), .int (nI q)], (SS b c), I, J, 0, 0)) rfl trivial ?_
              refine r_icmp okX12_posts rfl (fun (h171 : (nI q) = ((-1) : Int32)) => ?_) (fun (h171 : ¬ (nI q) = ((-1) : Int32)) => ?_)
              · exact absurd h171 (nI_m1 (by omega))
              · refine r_run okX12_posts 2 (cs := []) (σ' := (178, [some (.ref 100), some (.int k), some (.int w), some (.int (allP I 8)), some (.int (nI q)), some (.int most), some (.int (nI mc)), some (.int (nI s)), some (.int (gnV I s 96)), some (.int (nI (cnt (gnB I s) 96))), none], [.int most, .int (gnV I s 96)], (SS b c), I, J, 0, 0)) rfl trivial ?_
                refine r_icmp okX12_posts rfl (fun (h178 : (gnV I s 96) < most) => ?_) (fun (h178 : ¬ (gnV I s 96) < most) => ?_)
                · refine r_run okX12_posts 2 (cs := []) (σ' := (75, [some (.ref 100), some (.int k), some (.int w), some (.int (allP I 8)), some (.int (nI q)), some (.int most), some (.int (nI mc)), some (.int (nI s + 1)), some (.int (gnV I s 96)), some (.int (nI (cnt (gnB I s) 96))), none], [], (SS b c), I, J, 0, 0)) rfl trivial ?_
                  rw [← nI_succ]
                  refine r_weak (L' := [some (.ref 100), some (.int k), some (.int w), some (.int (allP I 8)), some (.int (nI q)), some (.int most), some (.int (nI mc)), some (.int (nI (s + 1))), none, none, none]) ⟨rfl, rfl, rfl, rfl, rfl, rfl, rfl, rfl, trivial⟩ ?_
                  have e : psS I k (j + 1) s (some q) most mc = psS I k j (s + 1) (some q) most mc := by rw [psS]; simp [*]
                  rw [e]
                  exact ih (s + 1) (some q) _ _ (by omega) hb hm
                · refine r_run okX12_posts 2 (cs := []) (σ' := (185, [some (.ref 100), some (.int k), some (.int w), some (.int (allP I 8)), some (.int (nI q)), some (.int most), some (.int (nI mc)), some (.int (nI s)), some (.int (gnV I s 96)), some (.int (nI (cnt (gnB I s) 96))), none], [.int most, .int (gnV I s 96)], (SS b c), I, J, 0, 0)) rfl trivial ?_
                  refine r_icmp okX12_posts rfl (fun (h185 : ¬ (gnV I s 96) = most) => ?_) (fun h1850 => ?_)
                  · refine r_run okX12_posts 8 (cs := []) (σ' := (75, [some (.ref 100), some (.int k), some (.int w), some (.int (allP I 8)), some (.int (nI s)), some (.int (gnV I s 96)), some (.int (nI (cnt (gnB I s) 96))), some (.int (nI s + 1)), some (.int (gnV I s 96)), some (.int (nI (cnt (gnB I s) 96))), none], [], (SS b c), I, J, 0, 0)) rfl trivial ?_
                    rw [← nI_succ]
                    refine r_weak (L' := [some (.ref 100), some (.int k), some (.int w), some (.int (allP I 8)), some (.int (nI s)), some (.int (gnV I s 96)), some (.int (nI (cnt (gnB I s) 96))), some (.int (nI (s + 1))), none, none, none]) ⟨rfl, rfl, rfl, rfl, rfl, rfl, rfl, rfl, trivial⟩ ?_
                    have e : psS I k (j + 1) s (some q) most mc = psS I k j (s + 1) (some s) (gnV I s 96) (cnt (gnB I s) 96) := by rw [psS]; simp [*]
                    rw [e]
                    exact ih (s + 1) (some s) _ _ (by omega) (fun q e => by cases e; omega) (cnt_le 96)
                  · have h185 : (gnV I s 96) = most := Classical.not_not.mp h1850
                    refine r_run okX12_posts 2 (cs := []) (σ' := (192, [some (.ref 100), some (.int k), some (.int w), some (.int (allP I 8)), some (.int (nI q)), some (.int most), some (.int (nI mc)), some (.int (nI s)), some (.int (gnV I s 96)), some (.int (nI (cnt (gnB I s) 96))), none], [.int (nI mc), .int (nI (cnt (gnB I s) 96))], (SS b c), I, J, 0, 0)) rfl trivial ?_
                    refine r_icmp okX12_posts rfl (fun (h192 : (nI mc) < (nI (cnt (gnB I s) 96))) => ?_) (fun (h192 : ¬ (nI mc) < (nI (cnt (gnB I s) 96))) => ?_)
                    · have hc : ¬ cnt (gnB I s) 96 ≤ mc := fun z => absurd h192 (nI_nlt z (by omega))
                      refine r_run okX12_posts 8 (cs := []) (σ' := (75, [some (.ref 100), some (.int k), some (.int w), some (.int (allP I 8)), some (.int (nI s)), some (.int (gnV I s 96)), some (.int (nI (cnt (gnB I s) 96))), some (.int (nI s + 1)), some (.int (gnV I s 96)), some (.int (nI (cnt (gnB I s) 96))), none], [], (SS b c), I, J, 0, 0)) rfl trivial ?_
                      rw [← nI_succ]
                      refine r_weak (L' := [some (.ref 100), some (.int k), some (.int w), some (.int (allP I 8)), some (.int (nI s)), some (.int (gnV I s 96)), some (.int (nI (cnt (gnB I s) 96))), some (.int (nI (s + 1))), none, none, none]) ⟨rfl, rfl, rfl, rfl, rfl, rfl, rfl, rfl, trivial⟩ ?_
                      have e : psS I k (j + 1) s (some q) most mc = psS I k j (s + 1) (some s) (gnV I s 96) (cnt (gnB I s) 96) := by rw [psS]; simp [*]
                      rw [e]
                      exact ih (s + 1) (some s) _ _ (by omega) (fun q e => by cases e; omega) (cnt_le 96)
                    · have hc : cnt (gnB I s) 96 ≤ mc := Nat.le_of_not_lt fun z => h192 (nI_lt z (by have := cnt_le (f := gnB I s) 96; omega))
                      refine r_run okX12_posts 3 (cs := []) (σ' := (75, [some (.ref 100), some (.int k), some (.int w), some (.int (allP I 8)), some (.int (nI q)), some (.int most), some (.int (nI mc)), some (.int (nI s + 1)), some (.int (gnV I s 96)), some (.int (nI (cnt (gnB I s) 96))), none], [], (SS b c), I, J, 0, 0)) rfl trivial ?_
                      rw [← nI_succ]
                      refine r_weak (L' := [some (.ref 100), some (.int k), some (.int w), some (.int (allP I 8)), some (.int (nI q)), some (.int most), some (.int (nI mc)), some (.int (nI (s + 1))), none, none, none]) ⟨rfl, rfl, rfl, rfl, rfl, rfl, rfl, rfl, trivial⟩ ?_
                      have e : psS I k (j + 1) s (some q) most mc = psS I k j (s + 1) (some q) most mc := by rw [psS]; simp [*]
                      rw [e]
                      exact ih (s + 1) (some q) _ _ (by omega) hb hm
          · refine r_run okX12_posts 3 (cs := []) (σ' := (75, [some (.ref 100), some (.int k), some (.int w), some (.int (allP I 8)), some (.int (nI q)), some (.int most), some (.int (nI mc)), some (.int (nI s + 1)), none, none, none], [], (SS b c), I, J, 0, 0)) rfl trivial ?_
            rw [← nI_succ]
            have hk : pkB I k s = false := by unfold pkB; rw [decide_eq_true h89, decide_eq_false h99]; rfl
            have e : psS I k (j + 1) s (some q) most mc = psS I k j (s + 1) (some q) most mc := by rw [psS]; simp [*]
            rw [e]
            exact ih (s + 1) (some q) _ _ (by omega) hb hm
theorem c_Mposts (γ : GE) {b c : Bool} {I : AI} {J : AJ} (hT : I 100 0 = 0) (hP : MPos I) (hR : MRad I) (k w : Int32) : Ct γ mX12_posts 3 0 0 [.ref 100, .int k, .int w] (SS b c) I J (rI (pstV I k w) (SS b c) I J) := by
  have ht := told0 hT
  refine ct_of okX12_posts (L := [some (.ref 100), some (.int k), some (.int w), none, none, none, none, none, none, none, none]) (Nat.le_of_ble_eq_true rfl) rfl ?_
  refine r_run okX12_posts 7 (cs := []) (σ' := (10, [some (.ref 100), some (.int k), some (.int w), none, none, none, none, none, none, none, none], [.int 8, .int 0, .int k, .ref 100], (SS b c), (upI I 100 0 0), J, 0, 0)) rfl trivial ?_
  simp only [ht]
  show Rj _ _ _ _ _ _ (10, [some (.ref 100), some (.int k), some (.int w), none, none, none, none, none, none, none, none], [.int 8, .int 0, .int k, .ref 100], (SS b c), I, J, 0, 0)
  refine r_callV okX12_posts okX12_isIn [.int k, .int 0, .int 8] [] 100 rfl rfl rfl kkX12_isIn rfl rfl (by decide) rfl rfl rfl (by decide) ⟨Nat.le_refl _, Nat.le_refl _⟩ (Nat.le_of_ble_eq_true rfl) (c_isIn γ k 0 8) (fun v1 S1 I1 J1 hp => ?_)
  obtain ⟨rfl, rfl, rfl, rfl⟩ := hp
  show Rj _ _ _ _ _ _ (13, [some (.ref 100), some (.int k), some (.int w), none, none, none, none, none, none, none, none], [.int (bi (inB k 0 8))], (SS b c), I, J, 0, 0)
  refine r_ifc okX12_posts rfl (fun (h13 : (bi (inB k 0 8)) = (0 : Int32)) => ?_) (fun (h13 : ¬ (bi (inB k 0 8)) = (0 : Int32)) => ?_)
  · have h13s := bi_0.mp h13
    refine r_run okX12_posts 1 (cs := []) (σ' := (27, [some (.ref 100), some (.int k), some (.int w), none, none, none, none, none, none, none, none], [.int (-1)], (SS b c), I, J, 0, 0)) rfl trivial ?_
    refine r_iret okX12_posts rfl rfl rfl (Nat.le_refl _) (Nat.le_refl _) ?_
    exact ⟨by simp [pstV, *], rfl, rfl, rfl⟩
  · have h13s := bi_n0.mp h13
    refine r_run okX12_posts 4 (cs := []) (σ' := (20, [some (.ref 100), some (.int k), some (.int w), none, none, none, none, none, none, none, none], [.int 2, .int 0, .int w, .ref 100], (SS b c), I, J, 0, 0)) rfl trivial ?_
    refine r_callV okX12_posts okX12_isIn [.int w, .int 0, .int 2] [] 100 rfl rfl rfl kkX12_isIn rfl rfl (by decide) rfl rfl rfl (by decide) ⟨Nat.le_refl _, Nat.le_refl _⟩ (Nat.le_of_ble_eq_true rfl) (c_isIn γ w 0 2) (fun v1 S1 I1 J1 hp => ?_)
    obtain ⟨rfl, rfl, rfl, rfl⟩ := hp
    show Rj _ _ _ _ _ _ (23, [some (.ref 100), some (.int k), some (.int w), none, none, none, none, none, none, none, none], [.int (bi (inB w 0 2))], (SS b c), I, J, 0, 0)
    refine r_ifc okX12_posts rfl (fun (h23 : ¬ (bi (inB w 0 2)) = (0 : Int32)) => ?_) (fun h230 => ?_)
    · have h23s := bi_n0.mp h23
      refine r_run okX12_posts 4 (cs := []) (σ' := (33, [some (.ref 100), some (.int k), some (.int w), some (.int 0), some (.int 0), none, none, none, none, none, none], [], (SS b c), I, J, 0, 0)) rfl trivial ?_
      have h := lp_all γ (b := b) (c := c) (I := I) (J := J) (Post := rI (pstV I k w) (SS b c) I J) k w ?_ 8 0 rfl
      · rw [show allP I 0 = 0 from rfl, nI_0] at h
        exact h
      · refine r_run okX12_posts 8 (cs := []) (σ' := (75, [some (.ref 100), some (.int k), some (.int w), some (.int (allP I 8)), some (.int (-1)), some (.int 0), some (.int 0), some (.int 0), none, none, none], [], (SS b c), I, J, 0, 0)) rfl trivial ?_
        have h := lp_posts γ (b := b) (c := c) (I := I) (J := J) hP hR k w 256 0 none 0 0 rfl (fun q e => by cases e) (by omega)
        rw [nI_0] at h
        rw [pstV, h13s, h23s, Bool.and_self, if_pos rfl]
        exact h
    · have h23 : (bi (inB w 0 2)) = (0 : Int32) := Classical.not_not.mp h230
      have h23s := bi_0.mp h23
      refine r_run okX12_posts 1 (cs := []) (σ' := (27, [some (.ref 100), some (.int k), some (.int w), none, none, none, none, none, none, none, none], [.int (-1)], (SS b c), I, J, 0, 0)) rfl trivial ?_
      refine r_iret okX12_posts rfl rfl rfl (Nat.le_refl _) (Nat.le_refl _) ?_
      exact ⟨by simp [pstV, *], rfl, rfl, rfl⟩
