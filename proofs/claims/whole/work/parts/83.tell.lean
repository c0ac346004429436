/-! ===== Tellings ===== -/
def srt (k : Int32) : Int32 := if k = 0 then 0 else if k = 1 then 3 else if k = 2 then 1 else 2
def mes (I : AI) (i : Nat) : Int32 := if I 110 i = 0 ∨ I 110 i = 1 then I 111 i else I 114 i
/-- the last telling of a minute among the first n -/
def lsT (I : AI) (t : Int32) : Nat → Option Nat
  | 0 => none
  | n + 1 => if I 112 n = t then some n else lsT I t n
def OTel (I : AI) : Prop := I 29 7 = I 100 13 ∧ (∀ i, i < nv (I 100 13) → I 30 i = srt (I 110 i) ∧ I 31 i = I 112 i ∧ I 32 i = I 113 i ∧ I 33 i = mes I i ∧ I 34 i = I 115 i ∧ I 35 i = bsI (lsT I (I 112 i) i)) ∧ (∀ t, t < 720 → I 36 t = bsI (lsT I (nI t) (nv (I 100 13)))) ∧ (∀ i, i < nv (I 100 13) → I 115 i ≤ I 100 5 ∧ ∀ j, j < i → I 115 j ≤ I 115 i)
theorem lsT_lt {I : AI} {t : Int32} : ∀ {n p : Nat}, lsT I t n = some p → p < n ∧ I 112 p = t
  | 0, p, h => by cases h
  | n + 1, p, h => by
    unfold lsT at h
    split at h
    · rename_i e; cases h; exact ⟨by omega, e⟩
    · have := lsT_lt h; exact ⟨by omega, this.2⟩
theorem bs_some {p : Nat} (hp : p < 2 ^ 31) : ¬ bsI (some p) < 0 := nI_pos hp
theorem bs_none : bsI none < 0 := by decide
/-- how many of the first n are known at k -/
def knN (I : AI) (k : Int32) : Nat → Nat
  | 0 => 0
  | n + 1 => if I 115 n ≤ k then n + 1 else knN I k n
theorem knN_le {I : AI} {k : Int32} : ∀ {n : Nat}, knN I k n ≤ n
  | 0 => Nat.le_refl _
  | n + 1 => by
    unfold knN
    split
    · exact Nat.le_refl _
    · exact Nat.le_trans knN_le (Nat.le_succ n)
theorem knN_sp {I : AI} {k : Int32} : ∀ {n : Nat}, (∀ i, i < n → ∀ j, j < i → I 115 j ≤ I 115 i) → ∀ i, i < n → (i < knN I k n ↔ I 115 i ≤ k)
  | 0, _, i, h => absurd h (Nat.not_lt_zero i)
  | n + 1, hm, i, h => by
    unfold knN
    split
    · rename_i h1
      refine ⟨fun _ => ?_, fun _ => h⟩
      by_cases e : i = n
      · rw [e]; exact h1
      · exact Int32.le_trans (hm n (by omega) i (by omega)) h1
    · rename_i h1
      by_cases e : i = n
      · rw [e]; exact ⟨fun q => by have := knN_le (I := I) (k := k) (n := n); omega, fun q => absurd q h1⟩
      · exact knN_sp (fun i hi j hj => hm i (by omega) j hj) i (by omega)
def lsmN (I : AI) : Nat → Int32
  | 0 => -1
  | i + 1 => if I 110 i = 3 then lsmN I i else if lsmN I i < I 112 i then I 112 i else lsmN I i
theorem lastV_kn {I : AI} {k : Int32} {n : Nat} (hm : ∀ i, i < n → ∀ j, j < i → I 115 j ≤ I 115 i) : ∀ m, m ≤ n → lastV I k m = lsmN I (min m (knN I k n))
  | 0, _ => by rw [Nat.zero_min]; rfl
  | m + 1, h => by
    have ih := lastV_kn (k := k) hm m (by omega)
    have hs := knN_sp hm (k := k) m (by omega)
    by_cases h1 : I 115 m ≤ k
    · have := hs.mpr h1
      rw [show min m (knN I k n) = m by omega] at ih
      rw [show min (m + 1) (knN I k n) = m + 1 by omega]
      unfold lastV lsmN
      rw [ih]
      by_cases h3 : I 110 m = 3
      · simp [h3]
      · by_cases h4 : lsmN I m < I 112 m <;> simp [h1, h3, h4]
    · have h2 : ¬ m < knN I k n := fun q => h1 (hs.mp q)
      rw [show min m (knN I k n) = knN I k n by omega] at ih
      rw [show min (m + 1) (knN I k n) = knN I k n by omega]
      unfold lastV
      simp [h1, ih]
theorem srt_2 {k : Int32} (h : rg 4 k) : srt k = 2 ↔ k = 3 := by
  obtain ⟨j, hj, rfl⟩ := h
  have : j = 0 ∨ j = 1 ∨ j = 2 ∨ j = 3 := by omega
  rcases this with rfl | rfl | rfl | rfl <;> decide
theorem srt_3 {k : Int32} (h : rg 4 k) : srt k = 3 ↔ k = 1 := by
  obtain ⟨j, hj, rfl⟩ := h
  have : j = 0 ∨ j = 1 ∨ j = 2 ∨ j = 3 := by omega
  rcases this with rfl | rfl | rfl | rfl <;> decide
theorem srt_0 {k : Int32} (h : rg 4 k) : srt k = 0 ↔ k = 0 := by
  obtain ⟨j, hj, rfl⟩ := h
  have : j = 0 ∨ j = 1 ∨ j = 2 ∨ j = 3 := by omega
  rcases this with rfl | rfl | rfl | rfl <;> decide
theorem o_tsize (γ : GE) {b c : Bool} {I : AI} {J : AJ} (hO : OTel I) : Ct γ mX7_size 0 0 0 [.ref 29] (SS b c) I J (rI (I 100 13) (SS b c) I J) := by
  refine ct_of okX7_size (L := [some (.ref 29)]) (Nat.le_of_ble_eq_true rfl) rfl ?_
  refine r_run okX7_size 2 (cs := []) (σ' := (4, [some (.ref 29)], [.int (I 29 7)], (SS b c), I, J, 0, 0)) rfl trivial ?_
  refine r_iret okX7_size rfl rfl rfl (Nat.le_refl _) (Nat.le_refl _) ?_
  exact ⟨by rw [hO.1], rfl, rfl, rfl⟩
theorem lp_kn (γ : GE) {b c : Bool} {I : AI} {J : AJ} (hO : OTel I) (k : Int32) : ∀ (n : Nat), n ≤ nv (I 100 13) → n < 301 → Rj γ mX7_knownAt 0 0 0 (rI (nI (knN I k n)) (SS b c) I J) (5, [some (.ref 29), some (.int k), some (.int (nI n))], [], (SS b c), I, J, 0, 0) := by
  intro n
  induction n with
  | zero =>
    intro hn h3
    refine r_run okX7_knownAt 1 (cs := []) (σ' := (6, [some (.ref 29), some (.int k), some (.int (nI 0))], [.int (nI 0)], (SS b c), I, J, 0, 0)) rfl trivial ?_
    refine r_ifc okX7_knownAt rfl (fun (h6 : (nI 0) ≤ (0 : Int32)) => ?_) (fun (h6 : ¬ (nI 0) ≤ (0 : Int32)) => ?_)
    · refine r_run okX7_knownAt 1 (cs := []) (σ' := (28, [some (.ref 29), some (.int k), some (.int (nI 0))], [.int (nI 0)], (SS b c), I, J, 0, 0)) rfl trivial ?_
      refine r_iret okX7_knownAt rfl rfl rfl (Nat.le_refl _) (Nat.le_refl _) ?_
      exact ⟨rfl, rfl, rfl, rfl⟩
    · exact absurd (by decide) h6
  | succ n ih =>
    intro hn h3
    have cn : (nI n).toNatClampNeg = n := nI_clamp (by omega)
    have e34 := (hO.2.1 n (by omega)).2.2.2.2.1
    refine r_run okX7_knownAt 1 (cs := []) (σ' := (6, [some (.ref 29), some (.int k), some (.int (nI (n + 1)))], [.int (nI (n + 1))], (SS b c), I, J, 0, 0)) rfl trivial ?_
    refine r_ifc okX7_knownAt rfl (fun (h6 : (nI (n + 1)) ≤ (0 : Int32)) => ?_) (fun (h6 : ¬ (nI (n + 1)) ≤ (0 : Int32)) => ?_)
    · exact absurd h6 (nI_nle (by omega) (by omega))
    · refine r_run okX7_knownAt 7 (cs := [vp_in ((nI (n + 1)) - 1) 300]) (σ' := (18, [some (.ref 29), some (.int k), some (.int (nI (n + 1)))], [.int k, .int (I 34 (((nI (n + 1)) - 1).toNatClampNeg))], (SS b c), I, J, 0, 0)) rfl ⟨(by rw [nI_pred]; exact vin (by omega) (by decide)), trivial⟩ ?_
      simp only [nI_pred, cn, e34]
      show Rj _ _ _ _ _ _ (18, [some (.ref 29), some (.int k), some (.int (nI (n + 1)))], [.int k, .int (I 115 n)], (SS b c), I, J, 0, 0)
      refine r_icmp okX7_knownAt rfl (fun (h18 : (I 115 n) ≤ k) => ?_) (fun (h18 : ¬ (I 115 n) ≤ k) => ?_)
      · refine r_run okX7_knownAt 1 (cs := []) (σ' := (28, [some (.ref 29), some (.int k), some (.int (nI (n + 1)))], [.int (nI (n + 1))], (SS b c), I, J, 0, 0)) rfl trivial ?_
        refine r_iret okX7_knownAt rfl rfl rfl (Nat.le_refl _) (Nat.le_refl _) ?_
        rw [knN, if_pos h18]
        exact ⟨rfl, rfl, rfl, rfl⟩
      · refine r_run okX7_knownAt 2 (cs := []) (σ' := (5, [some (.ref 29), some (.int k), some (.int ((nI (n + 1)) + (-1)))], [], (SS b c), I, J, 0, 0)) rfl trivial ?_
        rw [pk_m1, knN, if_neg (Int32.not_le.mpr (Int32.not_le.mp h18))]
        exact ih (by omega) (by omega)
theorem o_knownAt (γ : GE) {b c : Bool} {I : AI} {J : AJ} (hO : OTel I) (k : Int32) (hT : MTel I) : Ct γ mX7_knownAt 0 0 0 [.ref 29, .int k] (SS b c) I J (rI (nI (knN I k (nv (I 100 13)))) (SS b c) I J) := by
  obtain ⟨n, hn, en⟩ := hT.1
  have e7 := hO.1.trans en
  refine ct_of okX7_knownAt (L := [some (.ref 29), some (.int k), none]) (Nat.le_of_ble_eq_true rfl) rfl ?_
  refine r_run okX7_knownAt 3 (cs := []) (σ' := (5, [some (.ref 29), some (.int k), some (.int (I 29 7))], [], (SS b c), I, J, 0, 0)) rfl trivial ?_
  simp only [e7]
  show Rj _ _ _ _ _ _ (5, [some (.ref 29), some (.int k), some (.int (nI n))], [], (SS b c), I, J, 0, 0)
  rw [en, nv_nI (by omega)]
  exact lp_kn γ hO k n (by rw [en, nv_nI (by omega)]; exact Nat.le_refl _) (by omega)
theorem lp_lsm (γ : GE) {b c : Bool} {I : AI} {J : AJ} (hO : OTel I) (hT : MTel I) {m n : Nat} (hn : n < 301) (en : I 100 13 = nI n) (hm : m ≤ n) : ∀ (j q : Nat), q + j = m → Rj γ mX7_lastSureMinute 0 0 0 (rI (lsmN I m) (SS b c) I J) (4, [some (.ref 29), some (.int (nI m)), some (.int (lsmN I q)), some (.int (nI q))], [], (SS b c), I, J, 0, 0) := by
  intro j
  induction j with
  | zero =>
    intro q  hj
    refine r_run okX7_lastSureMinute 2 (cs := []) (σ' := (6, [some (.ref 29), some (.int (nI m)), some (.int (lsmN I q)), some (.int (nI q))], [.int (nI m), .int (nI q)], (SS b c), I, J, 0, 0)) rfl trivial ?_
    refine r_icmp okX7_lastSureMinute rfl (fun (h6 : (nI m) ≤ (nI q)) => ?_) (fun (h6 : ¬ (nI m) ≤ (nI q)) => ?_)
    · refine r_run okX7_lastSureMinute 1 (cs := []) (σ' := (45, [some (.ref 29), some (.int (nI m)), some (.int (lsmN I q)), some (.int (nI q))], [.int (lsmN I q)], (SS b c), I, J, 0, 0)) rfl trivial ?_
      refine r_iret okX7_lastSureMinute rfl rfl rfl (Nat.le_refl _) (Nat.le_refl _) ?_
      have e : q = m := by omega
      subst e
      exact ⟨rfl, rfl, rfl, rfl⟩
    · exact absurd (nI_le (by omega) (by omega)) h6
  | succ j ih =>
    intro q  hj
    have cq : (nI q).toNatClampNeg = q := nI_clamp (by omega)
    have hq := hO.2.1 q (by rw [en, nv_nI (by omega)]; omega)
    have e30 := hq.1
    have e31 := hq.2.1
    have hr := (hT.2 q (by rw [en, nv_nI (by omega)]; omega)).1
    have e7 := hO.1.trans en
    refine r_run okX7_lastSureMinute 2 (cs := []) (σ' := (6, [some (.ref 29), some (.int (nI m)), some (.int (lsmN I q)), some (.int (nI q))], [.int (nI m), .int (nI q)], (SS b c), I, J, 0, 0)) rfl trivial ?_
    refine r_icmp okX7_lastSureMinute rfl (fun (h6 : (nI m) ≤ (nI q)) => ?_) (fun (h6 : ¬ (nI m) ≤ (nI q)) => ?_)
    · exact absurd h6 (nI_ge (by omega) (by omega))
    · refine r_run okX7_lastSureMinute 3 (cs := []) (σ' := (14, [some (.ref 29), some (.int (nI m)), some (.int (lsmN I q)), some (.int (nI q))], [.int (I 29 7), .int (nI q)], (SS b c), I, J, 0, 0)) rfl trivial ?_
      simp only [e7]
      show Rj _ _ _ _ _ _ (14, [some (.ref 29), some (.int (nI m)), some (.int (lsmN I q)), some (.int (nI q))], [.int (nI n), .int (nI q)], (SS b c), I, J, 0, 0)
      refine r_icmp okX7_lastSureMinute rfl (fun (h14 : (nI n) ≤ (nI q)) => ?_) (fun (h14 : ¬ (nI n) ≤ (nI q)) => ?_)
      · exact absurd h14 (nI_ge (by omega) (by omega))
      · refine r_run okX7_lastSureMinute 5 (cs := [vp_in (nI q) 300]) (σ' := (24, [some (.ref 29), some (.int (nI m)), some (.int (lsmN I q)), some (.int (nI q))], [.int 2, .int (I 30 ((nI q).toNatClampNeg))], (SS b c), I, J, 0, 0)) rfl ⟨(vin (by omega) (by decide)), trivial⟩ ?_
        simp only [cq, e30]
        show Rj _ _ _ _ _ _ (24, [some (.ref 29), some (.int (nI m)), some (.int (lsmN I q)), some (.int (nI q))], [.int 2, .int (srt (I 110 q))], (SS b c), I, J, 0, 0)
        refine r_icmp okX7_lastSureMinute rfl (fun (h24 : (srt (I 110 q)) = (2 : Int32)) => ?_) (fun (h24 : ¬ (srt (I 110 q)) = (2 : Int32)) => ?_)
        · refine r_run okX7_lastSureMinute 2 (cs := []) (σ' := (4, [some (.ref 29), some (.int (nI m)), some (.int (lsmN I q)), some (.int ((nI q) + 1))], [], (SS b c), I, J, 0, 0)) rfl trivial ?_
          rw [← nI_succ]
          have h := ih (q + 1) (by omega)
          rw [lsmN] at h
          rw [if_pos ((srt_2 hr).mp h24)] at h
          exact h
        · refine r_run okX7_lastSureMinute 5 (cs := [vp_in (nI q) 300]) (σ' := (34, [some (.ref 29), some (.int (nI m)), some (.int (lsmN I q)), some (.int (nI q))], [.int (I 31 ((nI q).toNatClampNeg)), .int (lsmN I q)], (SS b c), I, J, 0, 0)) rfl ⟨(vin (by omega) (by decide)), trivial⟩ ?_
          simp only [cq, e31]
          show Rj _ _ _ _ _ _ (34, [some (.ref 29), some (.int (nI m)), some (.int (lsmN I q)), some (.int (nI q))], [.int (I 112 q), .int (lsmN I q)], (SS b c), I, J, 0, 0)
          refine r_mmax okX7_lastSureMinute rfl rfl ⟨Nat.le_refl _, Nat.le_refl _⟩ (Nat.le_of_ble_eq_true rfl) ?_
          show Rj _ _ _ _ _ _ (37, [some (.ref 29), some (.int (nI m)), some (.int (lsmN I q)), some (.int (nI q))], [.int (if (lsmN I q) < (I 112 q) then (I 112 q) else (lsmN I q))], (SS b c), I, J, 0, 0)
          refine r_run okX7_lastSureMinute 3 (cs := []) (σ' := (4, [some (.ref 29), some (.int (nI m)), some (.int (if (lsmN I q) < (I 112 q) then (I 112 q) else (lsmN I q))), some (.int ((nI q) + 1))], [], (SS b c), I, J, 0, 0)) rfl trivial ?_
          rw [← nI_succ]
          have h := ih (q + 1) (by omega)
          rw [lsmN] at h
          rw [if_neg (fun z => h24 ((srt_2 hr).mpr z))] at h
          exact h
theorem o_lastSure (γ : GE) {b c : Bool} {I : AI} {J : AJ} (hO : OTel I) (hT : MTel I) {m : Nat} (hm : m ≤ nv (I 100 13)) : Ct γ mX7_lastSureMinute 0 0 0 [.ref 29, .int (nI m)] (SS b c) I J (rI (lsmN I m) (SS b c) I J) := by
  obtain ⟨n, hn, en⟩ := hT.1
  refine ct_of okX7_lastSureMinute (L := [some (.ref 29), some (.int (nI m)), none, none]) (Nat.le_of_ble_eq_true rfl) rfl ?_
  refine r_run okX7_lastSureMinute 4 (cs := []) (σ' := (4, [some (.ref 29), some (.int (nI m)), some (.int (-1)), some (.int 0)], [], (SS b c), I, J, 0, 0)) rfl trivial ?_
  exact lp_lsm γ hO hT hn en (by rw [en, nv_nI (by omega)] at hm; exact hm) m 0 (by omega)
def addN (I : AI) (n : Nat) (s : Int32) (t : Nat) (x v k : Int32) : AI := upI (upI (upI (upI (upI (upI (upI (upI I 30 n s) 31 n (nI t)) 32 n x) 33 n v) 34 n k) 35 n (I 36 t)) 36 t (nI n)) 29 7 (nI n + 1)
theorem o_add (γ : GE) {b c : Bool} {I : AI} {J : AJ} {n : Nat} (hn : n < 301) (en : I 29 7 = nI n) (s : Int32) {t : Nat} (ht : t < 720) (x v k : Int32) : Ct γ mX7_add 0 0 0 [.ref 29, .int s, .int (nI t), .int x, .int v, .int k] (SS b c) I J (rI (bi (decide (¬ n = 300))) (SS b c) (if n = 300 then I else addN I n s t x v k) J) := by
  have cn : (nI n).toNatClampNeg = n := nI_clamp (by omega)
  have ct : (nI t).toNatClampNeg = t := nI_clamp (by omega)
  refine ct_of okX7_add (L := [some (.ref 29), some (.int s), some (.int (nI t)), some (.int x), some (.int v), some (.int k)]) (Nat.le_of_ble_eq_true rfl) rfl ?_
  refine r_run okX7_add 3 (cs := []) (σ' := (7, [some (.ref 29), some (.int s), some (.int (nI t)), some (.int x), some (.int v), some (.int k)], [.int 300, .int (I 29 7)], (SS b c), I, J, 0, 0)) rfl trivial ?_
  simp only [en]
  show Rj _ _ _ _ _ _ (7, [some (.ref 29), some (.int s), some (.int (nI t)), some (.int x), some (.int v), some (.int k)], [.int 300, .int (nI n)], (SS b c), I, J, 0, 0)
  refine r_icmp okX7_add rfl (fun (h7 : (nI n) < (300 : Int32)) => ?_) (fun (h7 : ¬ (nI n) < (300 : Int32)) => ?_)
  · refine r_run okX7_add 52 (cs := [vp_in (I 29 7) 300, vp_in (I 29 7) 300, vp_in (I 29 7) 300, vp_in (I 29 7) 300, vp_in (I 29 7) 300, vp_in (nI t) 720, vp_in (I 29 7) 300, vp_in (nI t) 720]) (σ' := (100, [some (.ref 29), some (.int s), some (.int (nI t)), some (.int x), some (.int v), some (.int k)], [.int 1], (SS b c), (upI (upI (upI (upI (upI (upI (upI (upI I 30 ((I 29 7).toNatClampNeg) s) 31 ((I 29 7).toNatClampNeg) (nI t)) 32 ((I 29 7).toNatClampNeg) x) 33 ((I 29 7).toNatClampNeg) v) 34 ((I 29 7).toNatClampNeg) k) 35 ((I 29 7).toNatClampNeg) (I 36 ((nI t).toNatClampNeg))) 36 ((nI t).toNatClampNeg) (I 29 7)) 29 7 ((I 29 7) + 1)), J, 0, 0)) rfl ⟨(by rw [en]; exact vin (by have : ¬ n = 300 := fun z => absurd h7 (by rw [z]; decide); omega) (by decide)), (by rw [en]; exact vin (by have : ¬ n = 300 := fun z => absurd h7 (by rw [z]; decide); omega) (by decide)), (by rw [en]; exact vin (by have : ¬ n = 300 := fun z => absurd h7 (by rw [z]; decide); omega) (by decide)), (by rw [en]; exact vin (by have : ¬ n = 300 := fun z => absurd h7 (by rw [z]; decide); omega) (by decide)), (by rw [en]; exact vin (by have : ¬ n = 300 := fun z => absurd h7 (by rw [z]; decide); omega) (by decide)), (vin ht (by decide)), (by rw [en]; exact vin (by have : ¬ n = 300 := fun z => absurd h7 (by rw [z]; decide); omega) (by decide)), (vin ht (by decide)), trivial⟩ ?_
    simp only [en, cn, ct]
    show Rj _ _ _ _ _ _ (100, [some (.ref 29), some (.int s), some (.int (nI t)), some (.int x), some (.int v), some (.int k)], [.int 1], (SS b c), (upI (upI (upI (upI (upI (upI (upI (upI I 30 n s) 31 n (nI t)) 32 n x) 33 n v) 34 n k) 35 n (I 36 t)) 36 t (nI n)) 29 7 ((nI n) + 1)), J, 0, 0)
    refine r_iret okX7_add rfl rfl (by decide +kernel) (Nat.le_refl _) (Nat.le_refl _) ?_
    have e : ¬ n = 300 := fun z => absurd h7 (by rw [z]; decide)
    rw [if_neg e, decide_eq_true e]
    exact ⟨rfl, rfl, rfl, rfl⟩
  · refine r_run okX7_add 1 (cs := []) (σ' := (11, [some (.ref 29), some (.int s), some (.int (nI t)), some (.int x), some (.int v), some (.int k)], [.int 0], (SS b c), I, J, 0, 0)) rfl trivial ?_
    refine r_iret okX7_add rfl rfl (by decide +kernel) (Nat.le_refl _) (Nat.le_refl _) ?_
    have e : n = 300 := by have := Nat.le_of_not_lt fun q => h7 (nI_lt (a := n) (b := 300) q (by decide)); omega
    subst e
    exact ⟨rfl, rfl, rfl, rfl⟩
