/-! ===== the reference: small methods ===== -/
def nv (x : Int32) : Nat := x.toNatClampNeg
theorem bi_t : bi true = 1 := rfl
theorem bi_f : bi false = 0 := rfl
def rg (n : Nat) (x : Int32) : Prop := ∃ k : Nat, k < n ∧ x = nI k
theorem nv_nI {n : Nat} (h : n < 2 ^ 31) : nv (nI n) = n := nI_clamp h
theorem rg_nv {n : Nat} {x : Int32} (h : rg n x) (hn : n ≤ 2 ^ 31) : nv x < n ∧ x = nI (nv x) := by
  obtain ⟨k, hk, rfl⟩ := h
  rw [nv_nI (by omega)]
  exact ⟨hk, rfl⟩
theorem lit_mul {a b : Nat} {x : Int32} (h : x = nI a) : x * nI b = nI (a * b) := by rw [h, nI_mu]
def dst (a b : Nat) : Nat := (a - b) + (b - a)
def farN (x y : Nat) : Nat := max (dst (x % 12) (y % 12)) (dst (x / 12) (y / 12))
def inB (v lo hi : Int32) : Bool := decide (lo ≤ v ∧ v ≤ hi)
def cellB (v : Int32) : Bool := decide (¬ v < 0 ∧ ¬ 96 ≤ v)
def ctyB (v : Int32) : Bool := decide (¬ v < 0 ∧ ¬ 8 ≤ v)
theorem abs_d : ∀ x, x < 12 → ∀ y, y < 12 → (0 ≤ nI x - nI y → nI x - nI y = nI (dst x y)) ∧ (¬ 0 ≤ nI x - nI y → -(nI x - nI y) = nI (dst x y)) := by decide +kernel
theorem c_isIn (γ : GE) {S : List Sh} {I : AI} {J : AJ} {a : Nat} (v lo hi : Int32) : Ct γ mX12_isIn 0 0 0 [.ref a, .int v, .int lo, .int hi] S I J (rI (bi (inB v lo hi)) S I J) := by
  refine ct_of okX12_isIn (L := [some (.ref a), some (.int v), some (.int lo), some (.int hi)]) (Nat.le_of_ble_eq_true rfl) rfl ?_
  refine r_run okX12_isIn 2 (cs := []) (σ' := (2, [some (.ref a), some (.int v), some (.int lo), some (.int hi)], [.int lo, .int v], S, I, J, 0, 0)) rfl trivial ?_
  refine r_icmp okX12_isIn rfl (fun (h2 : v < lo) => ?_) (fun (h2 : ¬ v < lo) => ?_)
  · refine r_run okX12_isIn 1 (cs := []) (σ' := (15, [some (.ref a), some (.int v), some (.int lo), some (.int hi)], [.int 0], S, I, J, 0, 0)) rfl trivial ?_
    refine r_iret okX12_isIn rfl rfl (by decide +kernel) (Nat.le_refl _) (Nat.le_refl _) ?_
    try simp only [cI] at *
    refine ⟨?_, rfl, rfl, rfl⟩
    simp only [inB, ← Int32.not_lt]
    simp [bi, *]
  · refine r_run okX12_isIn 2 (cs := []) (σ' := (7, [some (.ref a), some (.int v), some (.int lo), some (.int hi)], [.int hi, .int v], S, I, J, 0, 0)) rfl trivial ?_
    refine r_icmp okX12_isIn rfl (fun (h7 : hi < v) => ?_) (fun (h7 : ¬ hi < v) => ?_)
    · refine r_run okX12_isIn 1 (cs := []) (σ' := (15, [some (.ref a), some (.int v), some (.int lo), some (.int hi)], [.int 0], S, I, J, 0, 0)) rfl trivial ?_
      refine r_iret okX12_isIn rfl rfl (by decide +kernel) (Nat.le_refl _) (Nat.le_refl _) ?_
      try simp only [cI] at *
      refine ⟨?_, rfl, rfl, rfl⟩
      simp only [inB, ← Int32.not_lt]
      simp [bi, *]
    · refine r_run okX12_isIn 2 (cs := []) (σ' := (15, [some (.ref a), some (.int v), some (.int lo), some (.int hi)], [.int 1], S, I, J, 0, 0)) rfl trivial ?_
      refine r_iret okX12_isIn rfl rfl (by decide +kernel) (Nat.le_refl _) (Nat.le_refl _) ?_
      try simp only [cI] at *
      refine ⟨?_, rfl, rfl, rfl⟩
      simp only [inB, ← Int32.not_lt]
      simp [bi, *]
theorem c_isCell (γ : GE) {S : List Sh} {I : AI} {J : AJ} {a : Nat} (v : Int32) : Ct γ mX12_isCell 0 0 0 [.ref a, .int v] S I J (rI (bi (cellB v)) S I J) := by
  refine ct_of okX12_isCell (L := [some (.ref a), some (.int v)]) (Nat.le_of_ble_eq_true rfl) rfl ?_
  refine r_run okX12_isCell 1 (cs := []) (σ' := (1, [some (.ref a), some (.int v)], [.int v], S, I, J, 0, 0)) rfl trivial ?_
  refine r_ifc okX12_isCell rfl (fun (h1 : v < (0 : Int32)) => ?_) (fun (h1 : ¬ v < (0 : Int32)) => ?_)
  · refine r_run okX12_isCell 1 (cs := []) (σ' := (15, [some (.ref a), some (.int v)], [.int 0], S, I, J, 0, 0)) rfl trivial ?_
    refine r_iret okX12_isCell rfl rfl (by decide +kernel) (Nat.le_refl _) (Nat.le_refl _) ?_
    try simp only [cI] at *
    refine ⟨?_, rfl, rfl, rfl⟩
    unfold cellB
    simp [bi, *]
  · refine r_run okX12_isCell 2 (cs := []) (σ' := (7, [some (.ref a), some (.int v)], [.int 96, .int v], S, I, J, 0, 0)) rfl trivial ?_
    refine r_icmp okX12_isCell rfl (fun (h7 : (96 : Int32) ≤ v) => ?_) (fun (h7 : ¬ (96 : Int32) ≤ v) => ?_)
    · refine r_run okX12_isCell 1 (cs := []) (σ' := (15, [some (.ref a), some (.int v)], [.int 0], S, I, J, 0, 0)) rfl trivial ?_
      refine r_iret okX12_isCell rfl rfl (by decide +kernel) (Nat.le_refl _) (Nat.le_refl _) ?_
      try simp only [cI] at *
      refine ⟨?_, rfl, rfl, rfl⟩
      unfold cellB
      simp [bi, *]
    · refine r_run okX12_isCell 2 (cs := []) (σ' := (15, [some (.ref a), some (.int v)], [.int 1], S, I, J, 0, 0)) rfl trivial ?_
      refine r_iret okX12_isCell rfl rfl (by decide +kernel) (Nat.le_refl _) (Nat.le_refl _) ?_
      try simp only [cI] at *
      refine ⟨?_, rfl, rfl, rfl⟩
      unfold cellB
      simp [bi, *]
theorem c_isCounty (γ : GE) {S : List Sh} {I : AI} {J : AJ} {a : Nat} (v : Int32) : Ct γ mX12_isCounty 0 0 0 [.ref a, .int v] S I J (rI (bi (ctyB v)) S I J) := by
  refine ct_of okX12_isCounty (L := [some (.ref a), some (.int v)]) (Nat.le_of_ble_eq_true rfl) rfl ?_
  refine r_run okX12_isCounty 1 (cs := []) (σ' := (1, [some (.ref a), some (.int v)], [.int v], S, I, J, 0, 0)) rfl trivial ?_
  refine r_ifc okX12_isCounty rfl (fun (h1 : v < (0 : Int32)) => ?_) (fun (h1 : ¬ v < (0 : Int32)) => ?_)
  · refine r_run okX12_isCounty 1 (cs := []) (σ' := (15, [some (.ref a), some (.int v)], [.int 0], S, I, J, 0, 0)) rfl trivial ?_
    refine r_iret okX12_isCounty rfl rfl (by decide +kernel) (Nat.le_refl _) (Nat.le_refl _) ?_
    try simp only [cI] at *
    refine ⟨?_, rfl, rfl, rfl⟩
    unfold ctyB
    simp [bi, *]
  · refine r_run okX12_isCounty 2 (cs := []) (σ' := (7, [some (.ref a), some (.int v)], [.int 8, .int v], S, I, J, 0, 0)) rfl trivial ?_
    refine r_icmp okX12_isCounty rfl (fun (h7 : (8 : Int32) ≤ v) => ?_) (fun (h7 : ¬ (8 : Int32) ≤ v) => ?_)
    · refine r_run okX12_isCounty 1 (cs := []) (σ' := (15, [some (.ref a), some (.int v)], [.int 0], S, I, J, 0, 0)) rfl trivial ?_
      refine r_iret okX12_isCounty rfl rfl (by decide +kernel) (Nat.le_refl _) (Nat.le_refl _) ?_
      try simp only [cI] at *
      refine ⟨?_, rfl, rfl, rfl⟩
      unfold ctyB
      simp [bi, *]
    · refine r_run okX12_isCounty 2 (cs := []) (σ' := (15, [some (.ref a), some (.int v)], [.int 1], S, I, J, 0, 0)) rfl trivial ?_
      refine r_iret okX12_isCounty rfl rfl (by decide +kernel) (Nat.le_refl _) (Nat.le_refl _) ?_
      try simp only [cI] at *
      refine ⟨?_, rfl, rfl, rfl⟩
      unfold ctyB
      simp [bi, *]
theorem max_nI : ∀ {x y : Nat}, x < 96 → y < 96 → (if nI x ≤ nI y then nI y else nI x) = nI (max x y) := by
  intro x y hx hy
  by_cases h : x ≤ y
  · rw [if_pos (nI_le h (by omega)), Nat.max_eq_right h]
  · rw [if_neg (nI_ge (by omega) (by omega)), Nat.max_eq_left (by omega)]
theorem c_far0 (γ : GE) {S : List Sh} {I : AI} {J : AJ} {a : Nat} (x y : Nat) (hx : x < 96) (hy : y < 96) : Ct γ mX12_far 0 0 0 [.ref a, .int (nI x), .int (nI y)] S I J (rI (nI (farN x y)) S I J) := by
  obtain ⟨d1, d2⟩ := nI_dm x hx
  obtain ⟨f1, f2⟩ := nI_dm y hy
  have u1 := abs_d (x % 12) (by omega) (y % 12) (by omega)
  have u2 := abs_d (x / 12) (by omega) (y / 12) (by omega)
  have z1 : dst (x % 12) (y % 12) < 12 := by unfold dst; omega
  have z2 : dst (x / 12) (y / 12) < 8 := by unfold dst; omega
  refine ct_of okX12_far (L := [some (.ref a), some (.int (nI x)), some (.int (nI y)), none, none]) (Nat.le_of_ble_eq_true rfl) rfl ?_
  refine r_run okX12_far 17 (cs := [¬ (12 : Int32) = 0, ¬ (12 : Int32) = 0, ¬ (12 : Int32) = 0, ¬ (12 : Int32) = 0]) (σ' := (22, [some (.ref a), some (.int (nI x)), some (.int (nI y)), some (.int (((nI x) - (nI x) / 12 * 12) - ((nI y) - (nI y) / 12 * 12))), some (.int (((nI x) / 12) - ((nI y) / 12)))], [.int (((nI x) - (nI x) / 12 * 12) - ((nI y) - (nI y) / 12 * 12))], S, I, J, 0, 0)) rfl ⟨(by decide), (by decide), (by decide), (by decide), trivial⟩ ?_
  refine r_ifc okX12_far rfl (fun (h22 : (0 : Int32) ≤ (((nI x) - (nI x) / 12 * 12) - ((nI y) - (nI y) / 12 * 12))) => ?_) (fun (h22 : ¬ (0 : Int32) ≤ (((nI x) - (nI x) / 12 * 12) - ((nI y) - (nI y) / 12 * 12))) => ?_)
  · have h22A : (nI x - nI x / 12 * 12 - (nI y - nI y / 12 * 12)) = nI (dst (x % 12) (y % 12)) := by rw [d2, f2] at h22 ⊢; exact u1.1 h22
    refine r_run okX12_far 3 (cs := []) (σ' := (34, [some (.ref a), some (.int (nI x)), some (.int (nI y)), some (.int (((nI x) - (nI x) / 12 * 12) - ((nI y) - (nI y) / 12 * 12))), some (.int (((nI x) / 12) - ((nI y) / 12)))], [.int (((nI x) / 12) - ((nI y) / 12))], S, I, J, 0, 0)) rfl trivial ?_
    refine r_ifc okX12_far rfl (fun (h34 : (0 : Int32) ≤ (((nI x) / 12) - ((nI y) / 12))) => ?_) (fun (h34 : ¬ (0 : Int32) ≤ (((nI x) / 12) - ((nI y) / 12))) => ?_)
    · have h34A : (nI x / 12 - nI y / 12) = nI (dst (x / 12) (y / 12)) := by rw [d1, f1] at h34 ⊢; exact u2.1 h34
      refine r_run okX12_far 4 (cs := []) (σ' := (50, [some (.ref a), some (.int (nI x)), some (.int (nI y)), some (.int (((nI x) - (nI x) / 12 * 12) - ((nI y) - (nI y) / 12 * 12))), some (.int (((nI x) / 12) - ((nI y) / 12)))], [.int (((nI x) / 12) - ((nI y) / 12)), .int (((nI x) - (nI x) / 12 * 12) - ((nI y) - (nI y) / 12 * 12))], S, I, J, 0, 0)) rfl trivial ?_
      refine r_icmp okX12_far rfl (fun (h50 : (((nI x) - (nI x) / 12 * 12) - ((nI y) - (nI y) / 12 * 12)) ≤ (((nI x) / 12) - ((nI y) / 12))) => ?_) (fun (h50 : ¬ (((nI x) - (nI x) / 12 * 12) - ((nI y) - (nI y) / 12 * 12)) ≤ (((nI x) / 12) - ((nI y) / 12))) => ?_)
      · refine r_run okX12_far 1 (cs := []) (σ' := (59, [some (.ref a), some (.int (nI x)), some (.int (nI y)), some (.int (((nI x) - (nI x) / 12 * 12) - ((nI y) - (nI y) / 12 * 12))), some (.int (((nI x) / 12) - ((nI y) / 12)))], [.int (((nI x) / 12) - ((nI y) / 12))], S, I, J, 0, 0)) rfl trivial ?_
        refine r_iret okX12_far rfl rfl rfl (Nat.le_refl _) (Nat.le_refl _) ?_
        refine ⟨?_, rfl, rfl, rfl⟩
        rw [h22A, h34A] at h50
        rw [farN, ← max_nI (by omega) (by omega)]
        rw [if_pos h50, h34A]
      · refine r_run okX12_far 2 (cs := []) (σ' := (59, [some (.ref a), some (.int (nI x)), some (.int (nI y)), some (.int (((nI x) - (nI x) / 12 * 12) - ((nI y) - (nI y) / 12 * 12))), some (.int (((nI x) / 12) - ((nI y) / 12)))], [.int (((nI x) - (nI x) / 12 * 12) - ((nI y) - (nI y) / 12 * 12))], S, I, J, 0, 0)) rfl trivial ?_
        refine r_iret okX12_far rfl rfl rfl (Nat.le_refl _) (Nat.le_refl _) ?_
        refine ⟨?_, rfl, rfl, rfl⟩
        rw [h22A, h34A] at h50
        rw [farN, ← max_nI (by omega) (by omega)]
        rw [if_neg h50, h22A]
    · have h34A : (-(nI x / 12 - nI y / 12)) = nI (dst (x / 12) (y / 12)) := by rw [d1, f1] at h34 ⊢; exact u2.2 h34
      refine r_run okX12_far 6 (cs := []) (σ' := (50, [some (.ref a), some (.int (nI x)), some (.int (nI y)), some (.int (((nI x) - (nI x) / 12 * 12) - ((nI y) - (nI y) / 12 * 12))), some (.int (-(((nI x) / 12) - ((nI y) / 12))))], [.int (-(((nI x) / 12) - ((nI y) / 12))), .int (((nI x) - (nI x) / 12 * 12) - ((nI y) - (nI y) / 12 * 12))], S, I, J, 0, 0)) rfl trivial ?_
      refine r_icmp okX12_far rfl (fun (h50_1 : (((nI x) - (nI x) / 12 * 12) - ((nI y) - (nI y) / 12 * 12)) ≤ (-(((nI x) / 12) - ((nI y) / 12)))) => ?_) (fun (h50_1 : ¬ (((nI x) - (nI x) / 12 * 12) - ((nI y) - (nI y) / 12 * 12)) ≤ (-(((nI x) / 12) - ((nI y) / 12)))) => ?_)
      · refine r_run okX12_far 1 (cs := []) (σ' := (59, [some (.ref a), some (.int (nI x)), some (.int (nI y)), some (.int (((nI x) - (nI x) / 12 * 12) - ((nI y) - (nI y) / 12 * 12))), some (.int (-(((nI x) / 12) - ((nI y) / 12))))], [.int (-(((nI x) / 12) - ((nI y) / 12)))], S, I, J, 0, 0)) rfl trivial ?_
        refine r_iret okX12_far rfl rfl rfl (Nat.le_refl _) (Nat.le_refl _) ?_
        refine ⟨?_, rfl, rfl, rfl⟩
        rw [h22A, h34A] at h50_1
        rw [farN, ← max_nI (by omega) (by omega)]
        rw [if_pos h50_1, h34A]
      · refine r_run okX12_far 2 (cs := []) (σ' := (59, [some (.ref a), some (.int (nI x)), some (.int (nI y)), some (.int (((nI x) - (nI x) / 12 * 12) - ((nI y) - (nI y) / 12 * 12))), some (.int (-(((nI x) / 12) - ((nI y) / 12))))], [.int (((nI x) - (nI x) / 12 * 12) - ((nI y) - (nI y) / 12 * 12))], S, I, J, 0, 0)) rfl trivial ?_
        refine r_iret okX12_far rfl rfl rfl (Nat.le_refl _) (Nat.le_refl _) ?_
        refine ⟨?_, rfl, rfl, rfl⟩
        rw [h22A, h34A] at h50_1
        rw [farN, ← max_nI (by omega) (by omega)]
        rw [if_neg h50_1, h22A]
  · have h22A : (-(nI x - nI x / 12 * 12 - (nI y - nI y / 12 * 12))) = nI (dst (x % 12) (y % 12)) := by rw [d2, f2] at h22 ⊢; exact u1.2 h22
    refine r_run okX12_far 5 (cs := []) (σ' := (34, [some (.ref a), some (.int (nI x)), some (.int (nI y)), some (.int (-(((nI x) - (nI x) / 12 * 12) - ((nI y) - (nI y) / 12 * 12)))), some (.int (((nI x) / 12) - ((nI y) / 12)))], [.int (((nI x) / 12) - ((nI y) / 12))], S, I, J, 0, 0)) rfl trivial ?_
    refine r_ifc okX12_far rfl (fun (h34_1 : (0 : Int32) ≤ (((nI x) / 12) - ((nI y) / 12))) => ?_) (fun (h34_1 : ¬ (0 : Int32) ≤ (((nI x) / 12) - ((nI y) / 12))) => ?_)
    · have h34A : (nI x / 12 - nI y / 12) = nI (dst (x / 12) (y / 12)) := by rw [d1, f1] at h34_1 ⊢; exact u2.1 h34_1
      refine r_run okX12_far 4 (cs := []) (σ' := (50, [some (.ref a), some (.int (nI x)), some (.int (nI y)), some (.int (-(((nI x) - (nI x) / 12 * 12) - ((nI y) - (nI y) / 12 * 12)))), some (.int (((nI x) / 12) - ((nI y) / 12)))], [.int (((nI x) / 12) - ((nI y) / 12)), .int (-(((nI x) - (nI x) / 12 * 12) - ((nI y) - (nI y) / 12 * 12)))], S, I, J, 0, 0)) rfl trivial ?_
      refine r_icmp okX12_far rfl (fun (h50_2 : (-(((nI x) - (nI x) / 12 * 12) - ((nI y) - (nI y) / 12 * 12))) ≤ (((nI x) / 12) - ((nI y) / 12))) => ?_) (fun (h50_2 : ¬ (-(((nI x) - (nI x) / 12 * 12) - ((nI y) - (nI y) / 12 * 12))) ≤ (((nI x) / 12) - ((nI y) / 12))) => ?_)
      · refine r_run okX12_far 1 (cs := []) (σ' := (59, [some (.ref a), some (.int (nI x)), some (.int (nI y)), some (.int (-(((nI x) - (nI x) / 12 * 12) - ((nI y) - (nI y) / 12 * 12)))), some (.int (((nI x) / 12) - ((nI y) / 12)))], [.int (((nI x) / 12) - ((nI y) / 12))], S, I, J, 0, 0)) rfl trivial ?_
        refine r_iret okX12_far rfl rfl rfl (Nat.le_refl _) (Nat.le_refl _) ?_
        refine ⟨?_, rfl, rfl, rfl⟩
        rw [h22A, h34A] at h50_2
        rw [farN, ← max_nI (by omega) (by omega)]
        rw [if_pos h50_2, h34A]
      · refine r_run okX12_far 2 (cs := []) (σ' := (59, [some (.ref a), some (.int (nI x)), some (.int (nI y)), some (.int (-(((nI x) - (nI x) / 12 * 12) - ((nI y) - (nI y) / 12 * 12)))), some (.int (((nI x) / 12) - ((nI y) / 12)))], [.int (-(((nI x) - (nI x) / 12 * 12) - ((nI y) - (nI y) / 12 * 12)))], S, I, J, 0, 0)) rfl trivial ?_
        refine r_iret okX12_far rfl rfl rfl (Nat.le_refl _) (Nat.le_refl _) ?_
        refine ⟨?_, rfl, rfl, rfl⟩
        rw [h22A, h34A] at h50_2
        rw [farN, ← max_nI (by omega) (by omega)]
        rw [if_neg h50_2, h22A]
    · have h34A : (-(nI x / 12 - nI y / 12)) = nI (dst (x / 12) (y / 12)) := by rw [d1, f1] at h34_1 ⊢; exact u2.2 h34_1
      refine r_run okX12_far 6 (cs := []) (σ' := (50, [some (.ref a), some (.int (nI x)), some (.int (nI y)), some (.int (-(((nI x) - (nI x) / 12 * 12) - ((nI y) - (nI y) / 12 * 12)))), some (.int (-(((nI x) / 12) - ((nI y) / 12))))], [.int (-(((nI x) / 12) - ((nI y) / 12))), .int (-(((nI x) - (nI x) / 12 * 12) - ((nI y) - (nI y) / 12 * 12)))], S, I, J, 0, 0)) rfl trivial ?_
      refine r_icmp okX12_far rfl (fun (h50_3 : (-(((nI x) - (nI x) / 12 * 12) - ((nI y) - (nI y) / 12 * 12))) ≤ (-(((nI x) / 12) - ((nI y) / 12)))) => ?_) (fun (h50_3 : ¬ (-(((nI x) - (nI x) / 12 * 12) - ((nI y) - (nI y) / 12 * 12))) ≤ (-(((nI x) / 12) - ((nI y) / 12)))) => ?_)
      · refine r_run okX12_far 1 (cs := []) (σ' := (59, [some (.ref a), some (.int (nI x)), some (.int (nI y)), some (.int (-(((nI x) - (nI x) / 12 * 12) - ((nI y) - (nI y) / 12 * 12)))), some (.int (-(((nI x) / 12) - ((nI y) / 12))))], [.int (-(((nI x) / 12) - ((nI y) / 12)))], S, I, J, 0, 0)) rfl trivial ?_
        refine r_iret okX12_far rfl rfl rfl (Nat.le_refl _) (Nat.le_refl _) ?_
        refine ⟨?_, rfl, rfl, rfl⟩
        rw [h22A, h34A] at h50_3
        rw [farN, ← max_nI (by omega) (by omega)]
        rw [if_pos h50_3, h34A]
      · refine r_run okX12_far 2 (cs := []) (σ' := (59, [some (.ref a), some (.int (nI x)), some (.int (nI y)), some (.int (-(((nI x) - (nI x) / 12 * 12) - ((nI y) - (nI y) / 12 * 12)))), some (.int (-(((nI x) / 12) - ((nI y) / 12))))], [.int (-(((nI x) - (nI x) / 12 * 12) - ((nI y) - (nI y) / 12 * 12)))], S, I, J, 0, 0)) rfl trivial ?_
        refine r_iret okX12_far rfl rfl rfl (Nat.le_refl _) (Nat.le_refl _) ?_
        refine ⟨?_, rfl, rfl, rfl⟩
        rw [h22A, h34A] at h50_3
        rw [farN, ← max_nI (by omega) (by omega)]
        rw [if_neg h50_3, h22A]
theorem c_far (γ : GE) {S : List Sh} {I : AI} {J : AJ} {a x y : Nat} {X Y : Int32} (hx : x < 96) (hy : y < 96) (eX : X = nI x) (eY : Y = nI y) : Ct γ mX12_far 0 0 0 [.ref a, .int X, .int Y] S I J (rI (nI (farN x y)) S I J) := by
  subst eX; subst eY
  exact c_far0 γ x y hx hy
