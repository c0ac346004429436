/-! ===== the reference: box; wrong spans ===== -/
theorem c_Mpaths0 (γ : GE) {b c : Bool} {I : AI} {J : AJ} (hI : MBase I) (n : Int32) (ha : spnB n = false) : Ct γ mX12_paths 4 0 0 [.ref 100, .int n] (SS b c) I J (rJ1 (pthR I n) (SS b c) I J) := by
  have htt := told0 hI.1
  refine ct_of okX12_paths (L := [some (.ref 100), some (.int n)]) (Nat.le_of_ble_eq_true rfl) rfl ?_
  refine r_run okX12_paths 7 (cs := []) (σ' := (10, [some (.ref 100), some (.int n)], [.int 12, .int 1, .int n, .ref 100], (SS b c), (upI I 100 0 0), J, 0, 0)) rfl trivial ?_
  simp only [htt]
  show Rj _ _ _ _ _ _ (10, [some (.ref 100), some (.int n)], [.int 12, .int 1, .int n, .ref 100], (SS b c), I, J, 0, 0)
  refine r_callV okX12_paths okX12_isIn [.int n, .int 1, .int 12] [] 100 rfl rfl rfl kkX12_isIn rfl rfl (by decide) rfl rfl rfl (by decide) ⟨Nat.le_refl _, Nat.le_refl _⟩ (Nat.le_of_ble_eq_true rfl) (c_isIn γ n 1 12) (fun v1 S1 I1 J1 hp => ?_)
  obtain ⟨rfl, rfl, rfl, rfl⟩ := hp
  show Rj _ _ _ _ _ _ (13, [some (.ref 100), some (.int n)], [.int (bi (inB n 1 12))], (SS b c), I, J, 0, 0)
  refine r_ifc okX12_paths rfl (fun (h13 : ¬ (bi (inB n 1 12)) = (0 : Int32)) => ?_) (fun h130 => ?_)
  · have h13s := bi_n0.mp h13
    exact absurd (bi_n0.mp h13) (by rw [show inB n 1 12 = false from ha]; decide)
  · have h13 : (bi (inB n 1 12)) = (0 : Int32) := Classical.not_not.mp h130
    have h13s := bi_0.mp h13
    refine r_run okX12_paths 1 (cs := []) (σ' := (19, [some (.ref 100), some (.int n)], [.long (-1)], (SS b c), I, J, 0, 0)) rfl trivial ?_
    refine r_lret okX12_paths rfl rfl (Nat.le_refl _) (Nat.le_refl _) ?_
    exact ⟨by simp [pthR, misR, ha], rfl, fun a q => rfl, fun a q => rfl⟩
theorem c_Mpaths (γ : GE) {b c : Bool} {I : AI} {J : AJ} (hI : MBase I) (n : Int32) : Ct γ mX12_paths 4 0 0 [.ref 100, .int n] (SS b c) I J (rJ1 (pthR I n) (SS b c) I J) := by
  cases ha : spnB n with
  | false => exact c_Mpaths0 γ hI n ha
  | true =>
    obtain ⟨k, h1, h2, rfl⟩ := spn_nat ha
    exact c_Mpaths1 γ hI k h2 ha
theorem c_Mmissed0 (γ : GE) {b c : Bool} {I : AI} {J : AJ} (hI : MBase I) (n : Int32) (z : Int32) (ha : spnB n = false) : Ct γ mX12_missed 4 0 0 [.ref 100, .int n, .int z] (SS b c) I J (rJ1 (misR I n z) (SS b c) I J) := by
  have htt := told0 hI.1
  refine ct_of okX12_missed (L := [some (.ref 100), some (.int n), some (.int z)]) (Nat.le_of_ble_eq_true rfl) rfl ?_
  refine r_run okX12_missed 7 (cs := []) (σ' := (10, [some (.ref 100), some (.int n), some (.int z)], [.int 12, .int 1, .int n, .ref 100], (SS b c), (upI I 100 0 0), J, 0, 0)) rfl trivial ?_
  simp only [htt]
  show Rj _ _ _ _ _ _ (10, [some (.ref 100), some (.int n), some (.int z)], [.int 12, .int 1, .int n, .ref 100], (SS b c), I, J, 0, 0)
  refine r_callV okX12_missed okX12_isIn [.int n, .int 1, .int 12] [] 100 rfl rfl rfl kkX12_isIn rfl rfl (by decide) rfl rfl rfl (by decide) ⟨Nat.le_refl _, Nat.le_refl _⟩ (Nat.le_of_ble_eq_true rfl) (c_isIn γ n 1 12) (fun v1 S1 I1 J1 hp => ?_)
  obtain ⟨rfl, rfl, rfl, rfl⟩ := hp
  show Rj _ _ _ _ _ _ (13, [some (.ref 100), some (.int n), some (.int z)], [.int (bi (inB n 1 12))], (SS b c), I, J, 0, 0)
  refine r_ifc okX12_missed rfl (fun (h13 : (bi (inB n 1 12)) = (0 : Int32)) => ?_) (fun (h13 : ¬ (bi (inB n 1 12)) = (0 : Int32)) => ?_)
  · have h13s := bi_0.mp h13
    refine r_run okX12_missed 1 (cs := []) (σ' := (31, [some (.ref 100), some (.int n), some (.int z)], [.long (-1)], (SS b c), I, J, 0, 0)) rfl trivial ?_
    refine r_lret okX12_missed rfl rfl (Nat.le_refl _) (Nat.le_refl _) ?_
    exact ⟨by simp [pthR, misR, ha], rfl, fun a q => rfl, fun a q => rfl⟩
  · have h13s := bi_n0.mp h13
    exact absurd (bi_n0.mp h13) (by rw [show inB n 1 12 = false from ha]; decide)
theorem c_Mmissed (γ : GE) {b c : Bool} {I : AI} {J : AJ} (hI : MBase I) (n : Int32) (z : Int32) : Ct γ mX12_missed 4 0 0 [.ref 100, .int n, .int z] (SS b c) I J (rJ1 (misR I n z) (SS b c) I J) := by
  cases ha : spnB n with
  | false => exact c_Mmissed0 γ hI n z ha
  | true =>
    obtain ⟨k, h1, h2, rfl⟩ := spn_nat ha
    exact c_Mmissed1 γ hI k z h2 ha
def bsI : Option Nat → Int32
  | none => -1
  | some s => nI s
def bxSkip (I : AI) (s : Nat) (best : Option Nat) (least : Int32) : Bool := match best with
  | none => false
  | some q => decide (least < pplN I (nI s) 96) || (decide (pplN I (nI s) 96 = least) && decide (popN q ≤ popN s))
def bxOK (P : Int32 → Int64) (part : Int32) (s : Nat) : Bool := decide (lg_cmp ((P 255 - P (nI s)) * 1000) (part.toInt64 * P 255) ≤ 0)
/-- BEST BOX, tried from s on -/
def boxS (I : AI) (P : Int32 → Int64) (part : Int32) : Nat → Nat → Option Nat → Int32 → Option Nat × Int32
  | 0, _, best, least => (best, least)
  | j + 1, s, best, least => if bxSkip I s best least then boxS I P part j (s + 1) best least else if bxOK P part s then boxS I P part j (s + 1) (some s) (pplN I (nI s) 96) else boxS I P part j (s + 1) best least
def boxB (n part w : Int32) : Bool := spnB n && (inB part 0 1000 && inB w 0 1)
def boxV (I : AI) (n part w : Int32) : Int32 := if boxB n part w then (if w = 0 then bsI (boxS I (fun z => pthA I z (nv n)) part 256 0 none 0).1 else (boxS I (fun z => pthA I z (nv n)) part 256 0 none 0).2) else -1
theorem pplN_c {I I' : AI} (h : ∀ a, a ≠ 116 → I' a = I a) (z : Int32) : ∀ n, pplN I' z n = pplN I z n
  | 0 => rfl
  | n + 1 => by unfold pplN; rw [h 101 (by decide), h 102 (by decide), pplN_c h z n]
theorem bxSkip_c {I I' : AI} (h : ∀ a, a ≠ 116 → I' a = I a) (s : Nat) (best : Option Nat) (least : Int32) : bxSkip I' s best least = bxSkip I s best least := by
  unfold bxSkip
  rw [show pplN I' (nI s) 96 = pplN I (nI s) 96 from pplN_c h (nI s) 96]
theorem boxS_c {I I' : AI} {P P' : Int32 → Int64} (h : ∀ a, a ≠ 116 → I' a = I a) (hP : ∀ z, P' z = P z) (part : Int32) : ∀ j s best least, boxS I' P' part j s best least = boxS I P part j s best least
  | 0, _, _, _ => rfl
  | j + 1, s, best, least => by
    unfold boxS
    rw [bxSkip_c h, show pplN I' (nI s) 96 = pplN I (nI s) 96 from pplN_c h (nI s) 96, show bxOK P' part s = bxOK P part s by unfold bxOK; rw [hP, hP], boxS_c h hP, boxS_c h hP]
theorem lp_box (γ : GE) {b c : Bool} {I : AI} {J : AJ} (n t : Nat) (part w : Int32) (fm : Nat → Bool) (hn : n < 2 ^ 30) (ht : t < 720) (et : I 100 5 = nI t) (hm : ∀ y, y < 96 → I 116 (96 * t + y) = bi (fm y)) : ∀ (j s : Nat) (best : Option Nat) (least : Int32) (J1 : AJ), s + j = 256 → (∀ q, best = some q → q < 256) → (∀ a, a ≠ 117 → J1 a = J a) → Rj γ mX12_box 4 0 0 (fun r S' I' J' => some (.int (if w = 0 then bsI (boxS I (fun z => pthV I z n fm) part j s best least).1 else (boxS I (fun z => pthV I z n fm) part j s best least).2)) = r ∧ (SS b c) = S' ∧ I = I' ∧ ∀ a, a ≠ 117 → J' a = J a) (71, [some (.ref 100), some (.int (nI n)), some (.int part), some (.int w), some (.long (pthV I 255 n fm)), none, some (.int (bsI best)), some (.int least), some (.int (nI s)), none], [], (SS b c), I, J1, 0, 0) := by
  intro j
  induction j with
  | zero =>
    intro s best least J1 hj hb hJ
    refine r_run okX12_box 2 (cs := []) (σ' := (76, [some (.ref 100), some (.int (nI n)), some (.int part), some (.int w), some (.long (pthV I 255 n fm)), none, some (.int (bsI best)), some (.int least), some (.int (nI s)), none], [.int 256, .int (nI s)], (SS b c), I, J1, 0, 0)) rfl trivial ?_
    refine r_icmp okX12_box rfl (fun (h76 : (256 : Int32) ≤ (nI s)) => ?_) (fun (h76 : ¬ (256 : Int32) ≤ (nI s)) => ?_)
    · refine r_run okX12_box 1 (cs := []) (σ' := (166, [some (.ref 100), some (.int (nI n)), some (.int part), some (.int w), some (.long (pthV I 255 n fm)), none, some (.int (bsI best)), some (.int least), some (.int (nI s)), none], [.int w], (SS b c), I, J1, 0, 0)) rfl trivial ?_
      refine r_ifc okX12_box rfl (fun (h166 : ¬ w = (0 : Int32)) => ?_) (fun h1660 => ?_)
      · refine r_run okX12_box 1 (cs := []) (σ' := (176, [some (.ref 100), some (.int (nI n)), some (.int part), some (.int w), some (.long (pthV I 255 n fm)), none, some (.int (bsI best)), some (.int least), some (.int (nI s)), none], [.int least], (SS b c), I, J1, 0, 0)) rfl trivial ?_
        refine r_iret okX12_box rfl rfl rfl (Nat.le_refl _) (Nat.le_refl _) ?_
        exact ⟨by simp [boxS, h166], rfl, rfl, hJ⟩
      · have h166 : w = (0 : Int32) := Classical.not_not.mp h1660
        refine r_run okX12_box 2 (cs := []) (σ' := (176, [some (.ref 100), some (.int (nI n)), some (.int part), some (.int w), some (.long (pthV I 255 n fm)), none, some (.int (bsI best)), some (.int least), some (.int (nI s)), none], [.int (bsI best)], (SS b c), I, J1, 0, 0)) rfl trivial ?_
        refine r_iret okX12_box rfl rfl rfl (Nat.le_refl _) (Nat.le_refl _) ?_
        exact ⟨by simp [boxS, h166], rfl, rfl, hJ⟩
    · exact absurd (nI_le (a := 256) (by omega) (by omega)) h76
  | succ j ih =>
    intro s best least J1 hj hb hJ
    cases best with
    | none =>
      refine r_run okX12_box 2 (cs := []) (σ' := (76, [some (.ref 100), some (.int (nI n)), some (.int part), some (.int w), some (.long (pthV I 255 n fm)), none, some (.int (-1)), some (.int least), some (.int (nI s)), none], [.int 256, .int (nI s)], (SS b c), I, J1, 0, 0)) rfl trivial ?_
      refine r_icmp okX12_box rfl (fun (h76 : (256 : Int32) ≤ (nI s)) => ?_) (fun (h76 : ¬ (256 : Int32) ≤ (nI s)) => ?_)
      · exact absurd h76 (nI_ge (b := 256) (by omega) (by decide))
      · refine r_run okX12_box 2 (cs := []) (σ' := (82, [some (.ref 100), some (.int (nI n)), some (.int part), some (.int w), some (.long (pthV I 255 n fm)), none, some (.int (-1)), some (.int least), some (.int (nI s)), none], [.int (nI s), .ref 100], (SS b c), I, J1, 0, 0)) rfl trivial ?_
        refine r_callV okX12_box okX12_peopleOf [.int (nI s)] [] 100 rfl rfl rfl kkX12_peopleOf rfl rfl (by decide) rfl rfl rfl (by decide) ⟨Nat.le_refl _, Nat.le_refl _⟩ (Nat.le_of_ble_eq_true rfl) (c_peopleOf γ (nI s)) (fun v1 S1 I1 J1 hp => ?_)
        obtain ⟨rfl, rfl, rfl, rfl⟩ := hp
        show Rj _ _ _ _ _ _ (85, [some (.ref 100), some (.int (nI n)), some (.int part), some (.int w), some (.long (pthV I 255 n fm)), none, some (.int (-1)), some (.int least), some (.int (nI s)), none], [.int (pplN I (nI s) 96)], (SS b c), I, J1, 0, 0)
        refine r_run okX12_box 3 (cs := []) (σ' := (90, [some (.ref 100), some (.int (nI n)), some (.int part), some (.int w), some (.long (pthV I 255 n fm)), none, some (.int (-1)), some (.int least), some (.int (nI s)), some (.int (pplN I (nI s) 96))], [.int (-1), .int (-1)], (SS b c), I, J1, 0, 0)) rfl trivial ?_
        refine r_icmp okX12_box rfl (fun (h90 : ((-1) : Int32) = ((-1) : Int32)) => ?_) (fun (h90 : ¬ ((-1) : Int32) = ((-1) : Int32)) => ?_)
        · refine r_run okX12_box 4 (cs := []) (σ' := (131, [some (.ref 100), some (.int (nI n)), some (.int part), some (.int w), some (.long (pthV I 255 n fm)), none, some (.int (-1)), some (.int least), some (.int (nI s)), some (.int (pplN I (nI s) 96))], [.int (nI s), .int (nI n), .ref 100, .long (pthV I 255 n fm)], (SS b c), I, J1, 0, 0)) rfl trivial ?_
          refine r_callV okX12_box okX12_pathsIn [.int (nI n), .int (nI s)] [.long (pthV I 255 n fm)] 100 rfl rfl rfl kkX12_pathsIn rfl rfl (by decide) rfl rfl rfl (by decide) ⟨Nat.le_refl _, Nat.le_refl _⟩ (Nat.le_of_ble_eq_true rfl) (c_pathsIn0 γ n t (nI s) fm hn ht et hm) (fun v1 S1 I1 J1 hp => ?_)
          obtain ⟨rfl, rfl, rfl, hj2⟩ := hp
          rename AJ => J2
          show Rj _ _ _ _ _ _ (134, [some (.ref 100), some (.int (nI n)), some (.int part), some (.int w), some (.long (pthV I 255 n fm)), none, some (.int (-1)), some (.int least), some (.int (nI s)), some (.int (pplN I (nI s) 96))], [.long (pthV I (nI s) n fm), .long (pthV I 255 n fm)], (SS b c), I, J2, 0, 0)
          refine r_run okX12_box 8 (cs := []) (σ' := (145, [some (.ref 100), some (.int (nI n)), some (.int part), some (.int w), some (.long (pthV I 255 n fm)), none, some (.int (-1)), some (.int least), some (.int (nI s)), some (.int (pplN I (nI s) 96))], [.int (lg_cmp (((pthV I 255 n fm) - (pthV I (nI s) n fm)) * 1000) (part.toInt64 * (pthV I 255 n fm)))], (SS b c), I, J2, 0, 0)) rfl trivial ?_
          refine r_ifc okX12_box rfl (fun (h145 : (lg_cmp (((pthV I 255 n fm) - (pthV I (nI s) n fm)) * 1000) (part.toInt64 * (pthV I 255 n fm))) ≤ (0 : Int32)) => ?_) (fun (h145 : ¬ (lg_cmp (((pthV I 255 n fm) - (pthV I (nI s) n fm)) * 1000) (part.toInt64 * (pthV I 255 n fm))) ≤ (0 : Int32)) => ?_)
          · refine r_run okX12_box 6 (cs := []) (σ' := (71, [some (.ref 100), some (.int (nI n)), some (.int part), some (.int w), some (.long (pthV I 255 n fm)), none, some (.int (nI s)), some (.int (pplN I (nI s) 96)), some (.int (nI s + 1)), some (.int (pplN I (nI s) 96))], [], (SS b c), I, J2, 0, 0)) rfl trivial ?_
            rw [← nI_succ]
            refine r_weak (L' := [some (.ref 100), some (.int (nI n)), some (.int part), some (.int w), some (.long (pthV I 255 n fm)), none, some (.int (nI s)), some (.int (pplN I (nI s) 96)), some (.int (nI (s + 1))), none]) ⟨rfl, rfl, rfl, rfl, rfl, rfl, rfl, rfl, trivial⟩ ?_
            have e : boxS I (fun z => pthV I z n fm) part (j + 1) s none least = boxS I (fun z => pthV I z n fm) part j (s + 1) (some s) (pplN I (nI s) 96) := by rw [boxS]; simp [bxSkip, bxOK, *]
            rw [e]
            exact ih (s + 1) (some s) (pplN I (nI s) 96) J2 (by omega) (fun q e => by cases e; omega) (fun a h => (hj2 a h).trans (hJ a h))
          · refine r_run okX12_box 3 (cs := []) (σ' := (71, [some (.ref 100), some (.int (nI n)), some (.int part), some (.int w), some (.long (pthV I 255 n fm)), none, some (.int (-1)), some (.int least), some (.int (nI s + 1)), some (.int (pplN I (nI s) 96))], [], (SS b c), I, J2, 0, 0)) rfl trivial ?_
            rw [← nI_succ]
            refine r_weak (L' := [some (.ref 100), some (.int (nI n)), some (.int part), some (.int w), some (.long (pthV I 255 n fm)), none, some (.int (-1)), some (.int least), some (.int (nI (s + 1))), none]) ⟨rfl, rfl, rfl, rfl, rfl, rfl, rfl, rfl, trivial⟩ ?_
            have e : boxS I (fun z => pthV I z n fm) part (j + 1) s none least = boxS I (fun z => pthV I z n fm) part j (s + 1) none least := by rw [boxS]; simp [bxSkip, bxOK, *]
            rw [e]
            exact ih (s + 1) none least J2 (by omega) hb (fun a h => (hj2 a h).trans (hJ a h))
        · exact absurd h90 (by decide)
    | some q =>
      have hq := hb q rfl
      refine r_run okX12_box 2 (cs := []) (σ' := (76, [some (.ref 100), some (.int (nI n)), some (.int part), some (.int w), some (.long (pthV I 255 n fm)), none, some (.int (nI q)), some (.int least), some (.int (nI s)), none], [.int 256, .int (nI s)], (SS b c), I, J1, 0, 0)) rfl trivial ?_
      refine r_icmp okX12_box rfl (fun (h76 : (256 : Int32) ≤ (nI s)) => ?_) (fun (h76 : ¬ (256 : Int32) ≤ (nI s)) => ?_)
      · exact absurd h76 (nI_ge (b := 256) (by omega) (by decide))
      · refine r_run okX12_box 2 (cs := []) (σ' := (82, [some (.ref 100), some (.int (nI n)), some (.int part), some (.int w), some (.long (pthV I 255 n fm)), none, some (.int (nI q)), some (.int least), some (.int (nI s)), none], [.int (nI s), .ref 100], (SS b c), I, J1, 0, 0)) rfl trivial ?_
        refine r_callV okX12_box okX12_peopleOf [.int (nI s)] [] 100 rfl rfl rfl kkX12_peopleOf rfl rfl (by decide) rfl rfl rfl (by decide) ⟨Nat.le_refl _, Nat.le_refl _⟩ (Nat.le_of_ble_eq_true rfl) (c_peopleOf γ (nI s)) (fun v1 S1 I1 J1 hp => ?_)
        obtain ⟨rfl, rfl, rfl, rfl⟩ := hp
        show Rj _ _ _ _ _ _ (85, [some (.ref 100), some (.int (nI n)), some (.int part), some (.int w), some (.long (pthV I 255 n fm)), none, some (.int (nI q)), some (.int least), some (.int (nI s)), none], [.int (pplN I (nI s) 96)], (SS b c), I, J1, 0, 0)
        refine r_run okX12_box 3 (cs := []) (σ' := (90, [some (.ref 100), some (.int (nI n)), some (.int part), some (.int w), some (.long (pthV I 255 n fm)), none, some (.int (nI q)), some (.int least), some (.int (nI s)), some (.int (pplN I (nI s) 96))], [.int (-1), .int (nI q)], (SS b c), I, J1, 0, 0)) rfl trivial ?_
        refine r_icmp okX12_box rfl (fun (h90 : (nI q) = ((-1) : Int32)) => ?_) (fun (h90 : ¬ (nI q) = ((-1) : Int32)) => ?_)
        · exact absurd h90 (nI_m1 (by omega))
        · refine r_run okX12_box 2 (cs := []) (σ' := (97, [some (.ref 100), some (.int (nI n)), some (.int part), some (.int w), some (.long (pthV I 255 n fm)), none, some (.int (nI q)), some (.int least), some (.int (nI s)), some (.int (pplN I (nI s) 96))], [.int least, .int (pplN I (nI s) 96)], (SS b c), I, J1, 0, 0)) rfl trivial ?_
          refine r_icmp okX12_box rfl (fun (h97 : least < (pplN I (nI s) 96)) => ?_) (fun (h97 : ¬ least < (pplN I (nI s) 96)) => ?_)
          · refine r_run okX12_box 2 (cs := []) (σ' := (71, [some (.ref 100), some (.int (nI n)), some (.int part), some (.int w), some (.long (pthV I 255 n fm)), none, some (.int (nI q)), some (.int least), some (.int (nI s + 1)), some (.int (pplN I (nI s) 96))], [], (SS b c), I, J1, 0, 0)) rfl trivial ?_
            rw [← nI_succ]
            refine r_weak (L' := [some (.ref 100), some (.int (nI n)), some (.int part), some (.int w), some (.long (pthV I 255 n fm)), none, some (.int (nI q)), some (.int least), some (.int (nI (s + 1))), none]) ⟨rfl, rfl, rfl, rfl, rfl, rfl, rfl, rfl, trivial⟩ ?_
            have e : boxS I (fun z => pthV I z n fm) part (j + 1) s (some q) least = boxS I (fun z => pthV I z n fm) part j (s + 1) (some q) least := by rw [boxS]; simp [bxSkip, bxOK, *]
            rw [e]
            exact ih (s + 1) (some q) least J1 (by omega) hb hJ
          · refine r_run okX12_box 2 (cs := []) (σ' := (104, [some (.ref 100), some (.int (nI n)), some (.int part), some (.int w), some (.long (pthV I 255 n fm)), none, some (.int (nI q)), some (.int least), some (.int (nI s)), some (.int (pplN I (nI s) 96))], [.int least, .int (pplN I (nI s) 96)], (SS b c), I, J1, 0, 0)) rfl trivial ?_
            refine r_icmp okX12_box rfl (fun (h104 : ¬ (pplN I (nI s) 96) = least) => ?_) (fun h1040 => ?_)
            · refine r_run okX12_box 4 (cs := []) (σ' := (131, [some (.ref 100), some (.int (nI n)), some (.int part), some (.int w), some (.long (pthV I 255 n fm)), none, some (.int (nI q)), some (.int least), some (.int (nI s)), some (.int (pplN I (nI s) 96))], [.int (nI s), .int (nI n), .ref 100, .long (pthV I 255 n fm)], (SS b c), I, J1, 0, 0)) rfl trivial ?_
              refine r_callV okX12_box okX12_pathsIn [.int (nI n), .int (nI s)] [.long (pthV I 255 n fm)] 100 rfl rfl rfl kkX12_pathsIn rfl rfl (by decide) rfl rfl rfl (by decide) ⟨Nat.le_refl _, Nat.le_refl _⟩ (Nat.le_of_ble_eq_true rfl) (c_pathsIn0 γ n t (nI s) fm hn ht et hm) (fun v1 S1 I1 J1 hp => ?_)
              obtain ⟨rfl, rfl, rfl, hj2⟩ := hp
              rename AJ => J2
              show Rj _ _ _ _ _ _ (134, [some (.ref 100), some (.int (nI n)), some (.int part), some (.int w), some (.long (pthV I 255 n fm)), none, some (.int (nI q)), some (.int least), some (.int (nI s)), some (.int (pplN I (nI s) 96))], [.long (pthV I (nI s) n fm), .long (pthV I 255 n fm)], (SS b c), I, J2, 0, 0)
              refine r_run okX12_box 8 (cs := []) (σ' := (145, [some (.ref 100), some (.int (nI n)), some (.int part), some (.int w), some (.long (pthV I 255 n fm)), none, some (.int (nI q)), some (.int least), some (.int (nI s)), some (.int (pplN I (nI s) 96))], [.int (lg_cmp (((pthV I 255 n fm) - (pthV I (nI s) n fm)) * 1000) (part.toInt64 * (pthV I 255 n fm)))], (SS b c), I, J2, 0, 0)) rfl trivial ?_
              refine r_ifc okX12_box rfl (fun (h145 : (lg_cmp (((pthV I 255 n fm) - (pthV I (nI s) n fm)) * 1000) (part.toInt64 * (pthV I 255 n fm))) ≤ (0 : Int32)) => ?_) (fun (h145 : ¬ (lg_cmp (((pthV I 255 n fm) - (pthV I (nI s) n fm)) * 1000) (part.toInt64 * (pthV I 255 n fm))) ≤ (0 : Int32)) => ?_)
              · refine r_run okX12_box 6 (cs := []) (σ' := (71, [some (.ref 100), some (.int (nI n)), some (.int part), some (.int w), some (.long (pthV I 255 n fm)), none, some (.int (nI s)), some (.int (pplN I (nI s) 96)), some (.int (nI s + 1)), some (.int (pplN I (nI s) 96))], [], (SS b c), I, J2, 0, 0)) rfl trivial ?_
                rw [← nI_succ]
                refine r_weak (L' := [some (.ref 100), some (.int (nI n)), some (.int part), some (.int w), some (.long (pthV I 255 n fm)), none, some (.int (nI s)), some (.int (pplN I (nI s) 96)), some (.int (nI (s + 1))), none]) ⟨rfl, rfl, rfl, rfl, rfl, rfl, rfl, rfl, trivial⟩ ?_
                have e : boxS I (fun z => pthV I z n fm) part (j + 1) s (some q) least = boxS I (fun z => pthV I z n fm) part j (s + 1) (some s) (pplN I (nI s) 96) := by rw [boxS]; simp [bxSkip, bxOK, *]
                rw [e]
                exact ih (s + 1) (some s) (pplN I (nI s) 96) J2 (by omega) (fun q e => by cases e; omega) (fun a h => (hj2 a h).trans (hJ a h))
              · refine r_run okX12_box 3 (cs := []) (σ' := (71, [some (.ref 100), some (.int (nI n)), some (.int part), some (.int w), some (.long (pthV I 255 n fm)), none, some (.int (nI q)), some (.int least), some (.int (nI s + 1)), some (.int (pplN I (nI s) 96))], [], (SS b c), I, J2, 0, 0)) rfl trivial ?_
                rw [← nI_succ]
                refine r_weak (L' := [some (.ref 100), some (.int (nI n)), some (.int part), some (.int w), some (.long (pthV I 255 n fm)), none, some (.int (nI q)), some (.int least), some (.int (nI (s + 1))), none]) ⟨rfl, rfl, rfl, rfl, rfl, rfl, rfl, rfl, trivial⟩ ?_
                have e : boxS I (fun z => pthV I z n fm) part (j + 1) s (some q) least = boxS I (fun z => pthV I z n fm) part j (s + 1) (some q) least := by rw [boxS]; simp [bxSkip, bxOK, *]
                rw [e]
                exact ih (s + 1) (some q) least J2 (by omega) hb (fun a h => (hj2 a h).trans (hJ a h))
            · have h104 : (pplN I (nI s) 96) = least := Classical.not_not.mp h1040
              refine r_run okX12_box 2 (cs := []) (σ' := (110, [some (.ref 100), some (.int (nI n)), some (.int part), some (.int w), some (.long (pthV I 255 n fm)), none, some (.int (nI q)), some (.int least), some (.int (nI s)), some (.int (pplN I (nI s) 96))], [.int (nI s), .ref 100], (SS b c), I, J1, 0, 0)) rfl trivial ?_
              refine r_callV okX12_box okX12_ones [.int (nI s)] [] 100 rfl rfl rfl kkX12_ones rfl rfl (by decide) rfl rfl rfl (by decide) ⟨Nat.le_refl _, Nat.le_refl _⟩ (Nat.le_of_ble_eq_true rfl) (c_ones γ s (by omega)) (fun v1 S1 I1 J1 hp => ?_)
              obtain ⟨rfl, rfl, rfl, rfl⟩ := hp
              show Rj _ _ _ _ _ _ (113, [some (.ref 100), some (.int (nI n)), some (.int part), some (.int w), some (.long (pthV I 255 n fm)), none, some (.int (nI q)), some (.int least), some (.int (nI s)), some (.int (pplN I (nI s) 96))], [.int (nI (popN s))], (SS b c), I, J1, 0, 0)
              refine r_run okX12_box 2 (cs := []) (σ' := (116, [some (.ref 100), some (.int (nI n)), some (.int part), some (.int w), some (.long (pthV I 255 n fm)), none, some (.int (nI q)), some (.int least), some (.int (nI s)), some (.int (pplN I (nI s) 96))], [.int (nI q), .ref 100, .int (nI (popN s))], (SS b c), I, J1, 0, 0)) rfl trivial ?_
              refine r_callV okX12_box okX12_ones [.int (nI q)] [.int (nI (popN s))] 100 rfl rfl rfl kkX12_ones rfl rfl (by decide) rfl rfl rfl (by decide) ⟨Nat.le_refl _, Nat.le_refl _⟩ (Nat.le_of_ble_eq_true rfl) (c_ones γ q (by omega)) (fun v1 S1 I1 J1 hp => ?_)
              obtain ⟨rfl, rfl, rfl, rfl⟩ := hp
              show Rj _ _ _ _ _ _ (119, [some (.ref 100), some (.int (nI n)), some (.int part), some (.int w), some (.long (pthV I 255 n fm)), none, some (.int (nI q)), some (.int least), some (.int (nI s)), some (.int (pplN I (nI s) 96))], [.int (nI (popN q)), .int (nI (popN s))], (SS b c), I, J1, 0, 0)
              refine r_icmp okX12_box rfl (fun (h119 : (nI (popN s)) < (nI (popN q))) => ?_) (fun (h119 : ¬ (nI (popN s)) < (nI (popN q))) => ?_)
              · have hpo : ¬ popN q ≤ popN s := fun z => absurd h119 (nI_nlt z (by unfold popN; have := cnt_le (f := fun i => s.testBit i) 8; omega))
                refine r_run okX12_box 4 (cs := []) (σ' := (131, [some (.ref 100), some (.int (nI n)), some (.int part), some (.int w), some (.long (pthV I 255 n fm)), none, some (.int (nI q)), some (.int least), some (.int (nI s)), some (.int (pplN I (nI s) 96))], [.int (nI s), .int (nI n), .ref 100, .long (pthV I 255 n fm)], (SS b c), I, J1, 0, 0)) rfl trivial ?_
                refine r_callV okX12_box okX12_pathsIn [.int (nI n), .int (nI s)] [.long (pthV I 255 n fm)] 100 rfl rfl rfl kkX12_pathsIn rfl rfl (by decide) rfl rfl rfl (by decide) ⟨Nat.le_refl _, Nat.le_refl _⟩ (Nat.le_of_ble_eq_true rfl) (c_pathsIn0 γ n t (nI s) fm hn ht et hm) (fun v1 S1 I1 J1 hp => ?_)
                obtain ⟨rfl, rfl, rfl, hj2⟩ := hp
                rename AJ => J2
                show Rj _ _ _ _ _ _ (134, [some (.ref 100), some (.int (nI n)), some (.int part), some (.int w), some (.long (pthV I 255 n fm)), none, some (.int (nI q)), some (.int least), some (.int (nI s)), some (.int (pplN I (nI s) 96))], [.long (pthV I (nI s) n fm), .long (pthV I 255 n fm)], (SS b c), I, J2, 0, 0)
                refine r_run okX12_box 8 (cs := []) (σ' := (145, [some (.ref 100), some (.int (nI n)), some (.int part), some (.int w), some (.long (pthV I 255 n fm)), none, some (.int (nI q)), some (.int least), some (.int (nI s)), some (.int (pplN I (nI s) 96))], [.int (lg_cmp (((pthV I 255 n fm) - (pthV I (nI s) n fm)) * 1000) (part.toInt64 * (pthV I 255 n fm)))], (SS b c), I, J2, 0, 0)) rfl trivial ?_
                refine r_ifc okX12_box rfl (fun (h145_1 : (lg_cmp (((pthV I 255 n fm) - (pthV I (nI s) n fm)) * 1000) (part.toInt64 * (pthV I 255 n fm))) ≤ (0 : Int32)) => ?_) (fun (h145_1 : ¬ (lg_cmp (((pthV I 255 n fm) - (pthV I (nI s) n fm)) * 1000) (part.toInt64 * (pthV I 255 n fm))) ≤ (0 : Int32)) => ?_)
                · refine r_run okX12_box 6 (cs := []) (σ' := (71, [some (.ref 100), some (.int (nI n)), some (.int part), some (.int w), some (.long (pthV I 255 n fm)), none, some (.int (nI s)), some (.int (pplN I (nI s) 96)), some (.int (nI s + 1)), some (.int (pplN I (nI s) 96))], [], (SS b c), I, J2, 0, 0)) rfl trivial ?_
                  rw [← nI_succ]
                  refine r_weak (L' := [some (.ref 100), some (.int (nI n)), some (.int part), some (.int w), some (.long (pthV I 255 n fm)), none, some (.int (nI s)), some (.int (pplN I (nI s) 96)), some (.int (nI (s + 1))), none]) ⟨rfl, rfl, rfl, rfl, rfl, rfl, rfl, rfl, trivial⟩ ?_
                  have e : boxS I (fun z => pthV I z n fm) part (j + 1) s (some q) least = boxS I (fun z => pthV I z n fm) part j (s + 1) (some s) (pplN I (nI s) 96) := by rw [boxS]; simp [bxSkip, bxOK, *]
                  rw [e]
                  exact ih (s + 1) (some s) (pplN I (nI s) 96) J2 (by omega) (fun q e => by cases e; omega) (fun a h => (hj2 a h).trans (hJ a h))
                · refine r_run okX12_box 3 (cs := []) (σ' := (71, [some (.ref 100), some (.int (nI n)), some (.int part), some (.int w), some (.long (pthV I 255 n fm)), none, some (.int (nI q)), some (.int least), some (.int (nI s + 1)), some (.int (pplN I (nI s) 96))], [], (SS b c), I, J2, 0, 0)) rfl trivial ?_
                  rw [← nI_succ]
                  refine r_weak (L' := [some (.ref 100), some (.int (nI n)), some (.int part), some (.int w), some (.long (pthV I 255 n fm)), none, some (.int (nI q)), some (.int least), some (.int (nI (s + 1))), none]) ⟨rfl, rfl, rfl, rfl, rfl, rfl, rfl, rfl, trivial⟩ ?_
                  have e : boxS I (fun z => pthV I z n fm) part (j + 1) s (some q) least = boxS I (fun z => pthV I z n fm) part j (s + 1) (some q) least := by rw [boxS]; simp [bxSkip, bxOK, *]
                  rw [e]
                  exact ih (s + 1) (some q) least J2 (by omega) hb (fun a h => (hj2 a h).trans (hJ a h))
              · have hpo : popN q ≤ popN s := Nat.le_of_not_lt fun z => h119 (nI_lt z (by unfold popN; have := cnt_le (f := fun i => q.testBit i) 8; omega))
                refine r_run okX12_box 3 (cs := []) (σ' := (71, [some (.ref 100), some (.int (nI n)), some (.int part), some (.int w), some (.long (pthV I 255 n fm)), none, some (.int (nI q)), some (.int least), some (.int (nI s + 1)), some (.int (pplN I (nI s) 96))], [], (SS b c), I, J1, 0, 0)) rfl trivial ?_
                rw [← nI_succ]
                refine r_weak (L' := [some (.ref 100), some (.int (nI n)), some (.int part), some (.int w), some (.long (pthV I 255 n fm)), none, some (.int (nI q)), some (.int least), some (.int (nI (s + 1))), none]) ⟨rfl, rfl, rfl, rfl, rfl, rfl, rfl, rfl, trivial⟩ ?_
                have e : boxS I (fun z => pthV I z n fm) part (j + 1) s (some q) least = boxS I (fun z => pthV I z n fm) part j (s + 1) (some q) least := by rw [boxS]; simp [bxSkip, bxOK, *]
                rw [e]
                exact ih (s + 1) (some q) least J1 (by omega) hb hJ
theorem c_Mbox1 (γ : GE) {b c : Bool} {I : AI} {J : AJ} (hI : MBase I) (n : Nat) (part w : Int32) (hn : n ≤ 12) (ha : spnB (nI n) = true) : Ct γ mX12_box 4 0 0 [.ref 100, .int (nI n), .int part, .int w] (SS b c) I J (rI2 (boxV I (nI n) part w) (SS b c) I J) := by
  have htt := told0 hI.1
  obtain ⟨t, ht, et⟩ := hI.2.2.2.2
  have e5 : memM I (nI t) (t + 1) 100 5 = nI t := by rw [memM_ne (by decide)]; exact et
  refine ct_of okX12_box (L := [some (.ref 100), some (.int (nI n)), some (.int part), some (.int w), none, none, none, none, none, none]) (Nat.le_of_ble_eq_true rfl) rfl ?_
  refine r_run okX12_box 7 (cs := []) (σ' := (10, [some (.ref 100), some (.int (nI n)), some (.int part), some (.int w), none, none, none, none, none, none], [.int 12, .int 1, .int (nI n), .ref 100], (SS b c), (upI I 100 0 0), J, 0, 0)) rfl trivial ?_
  simp only [htt]
  show Rj _ _ _ _ _ _ (10, [some (.ref 100), some (.int (nI n)), some (.int part), some (.int w), none, none, none, none, none, none], [.int 12, .int 1, .int (nI n), .ref 100], (SS b c), I, J, 0, 0)
  refine r_callV okX12_box okX12_isIn [.int (nI n), .int 1, .int 12] [] 100 rfl rfl rfl kkX12_isIn rfl rfl (by decide) rfl rfl rfl (by decide) ⟨Nat.le_refl _, Nat.le_refl _⟩ (Nat.le_of_ble_eq_true rfl) (c_isIn γ (nI n) 1 12) (fun v1 S1 I1 J1 hp => ?_)
  obtain ⟨rfl, rfl, rfl, rfl⟩ := hp
  show Rj _ _ _ _ _ _ (13, [some (.ref 100), some (.int (nI n)), some (.int part), some (.int w), none, none, none, none, none, none], [.int (bi (inB (nI n) 1 12))], (SS b c), I, J, 0, 0)
  refine r_ifc okX12_box rfl (fun (h13 : (bi (inB (nI n) 1 12)) = (0 : Int32)) => ?_) (fun (h13 : ¬ (bi (inB (nI n) 1 12)) = (0 : Int32)) => ?_)
  · have h13s := bi_0.mp h13
    exact absurd (bi_0.mp h13) (by rw [show inB (nI n) 1 12 = true from ha]; decide)
  · have h13s := bi_n0.mp h13
    refine r_run okX12_box 4 (cs := []) (σ' := (22, [some (.ref 100), some (.int (nI n)), some (.int part), some (.int w), none, none, none, none, none, none], [.int 1000, .int 0, .int part, .ref 100], (SS b c), I, J, 0, 0)) rfl trivial ?_
    refine r_callV okX12_box okX12_isIn [.int part, .int 0, .int 1000] [] 100 rfl rfl rfl kkX12_isIn rfl rfl (by decide) rfl rfl rfl (by decide) ⟨Nat.le_refl _, Nat.le_refl _⟩ (Nat.le_of_ble_eq_true rfl) (c_isIn γ part 0 1000) (fun v1 S1 I1 J1 hp => ?_)
    obtain ⟨rfl, rfl, rfl, rfl⟩ := hp
    show Rj _ _ _ _ _ _ (25, [some (.ref 100), some (.int (nI n)), some (.int part), some (.int w), none, none, none, none, none, none], [.int (bi (inB part 0 1000))], (SS b c), I, J, 0, 0)
    refine r_ifc okX12_box rfl (fun (h25 : (bi (inB part 0 1000)) = (0 : Int32)) => ?_) (fun (h25 : ¬ (bi (inB part 0 1000)) = (0 : Int32)) => ?_)
    · have h25s := bi_0.mp h25
      refine r_run okX12_box 1 (cs := []) (σ' := (39, [some (.ref 100), some (.int (nI n)), some (.int part), some (.int w), none, none, none, none, none, none], [.int (-1)], (SS b c), I, J, 0, 0)) rfl trivial ?_
      refine r_iret okX12_box rfl rfl rfl (Nat.le_refl _) (Nat.le_refl _) ?_
      exact ⟨by simp [boxV, boxB, ha, *], rfl, fun a q => rfl, fun a q => rfl⟩
    · have h25s := bi_n0.mp h25
      refine r_run okX12_box 4 (cs := []) (σ' := (32, [some (.ref 100), some (.int (nI n)), some (.int part), some (.int w), none, none, none, none, none, none], [.int 1, .int 0, .int w, .ref 100], (SS b c), I, J, 0, 0)) rfl trivial ?_
      refine r_callV okX12_box okX12_isIn [.int w, .int 0, .int 1] [] 100 rfl rfl rfl kkX12_isIn rfl rfl (by decide) rfl rfl rfl (by decide) ⟨Nat.le_refl _, Nat.le_refl _⟩ (Nat.le_of_ble_eq_true rfl) (c_isIn γ w 0 1) (fun v1 S1 I1 J1 hp => ?_)
      obtain ⟨rfl, rfl, rfl, rfl⟩ := hp
      show Rj _ _ _ _ _ _ (35, [some (.ref 100), some (.int (nI n)), some (.int part), some (.int w), none, none, none, none, none, none], [.int (bi (inB w 0 1))], (SS b c), I, J, 0, 0)
      refine r_ifc okX12_box rfl (fun (h35 : ¬ (bi (inB w 0 1)) = (0 : Int32)) => ?_) (fun h350 => ?_)
      · have h35s := bi_n0.mp h35
        refine r_run okX12_box 5 (cs := []) (σ' := (49, [some (.ref 100), some (.int (nI n)), some (.int part), some (.int w), none, none, none, none, none, none], [.int (I 100 5), .int (I 100 5), .ref 100], (SS b c), I, J, 0, 0)) rfl trivial ?_
        refine r_callV okX12_box okX12_findMaybe [.int (I 100 5), .int (I 100 5)] [] 100 rfl rfl rfl kkX12_findMaybe rfl rfl (by decide) rfl rfl rfl (by decide) ⟨Nat.le_refl _, Nat.le_refl _⟩ (Nat.le_of_ble_eq_true rfl) (c_findMaybe1 γ hI ht et) (fun v1 S1 I1 J1 hp => ?_)
        obtain ⟨rfl, rfl, rfl, rfl⟩ := hp
        show Rj _ _ _ _ _ _ (52, [some (.ref 100), some (.int (nI n)), some (.int part), some (.int w), none, none, none, none, none, none], [], (SS b c), (memM I (nI t) (t + 1)), J, 0, 0)
        refine r_run okX12_box 3 (cs := []) (σ' := (57, [some (.ref 100), some (.int (nI n)), some (.int part), some (.int w), none, none, none, none, none, none], [.int 255, .int (nI n), .ref 100], (SS b c), (memM I (nI t) (t + 1)), J, 0, 0)) rfl trivial ?_
        refine r_callV okX12_box okX12_pathsIn [.int (nI n), .int 255] [] 100 rfl rfl rfl kkX12_pathsIn rfl rfl (by decide) rfl rfl rfl (by decide) ⟨Nat.le_refl _, Nat.le_refl _⟩ (Nat.le_of_ble_eq_true rfl) (c_pathsIn0 γ n t 255 (mayB I (nI t) t) (by omega) ht e5 (fun x hx => memM_at (by omega) hx)) (fun v1 S1 I1 J1 hp => ?_)
        obtain ⟨rfl, rfl, rfl, hj1⟩ := hp
        show Rj _ _ _ _ _ _ (60, [some (.ref 100), some (.int (nI n)), some (.int part), some (.int w), none, none, none, none, none, none], [.long (pthV (memM I (nI t) (t + 1)) 255 n (mayB I (nI t) t))], (SS b c), (memM I (nI t) (t + 1)), J1, 0, 0)
        refine r_run okX12_box 7 (cs := []) (σ' := (71, [some (.ref 100), some (.int (nI n)), some (.int part), some (.int w), some (.long (pthV (memM I (nI t) (t + 1)) 255 n (mayB I (nI t) t))), none, some (.int (-1)), some (.int 0), some (.int 0), none], [], (SS b c), (memM I (nI t) (t + 1)), J1, 0, 0)) rfl trivial ?_
        have h := lp_box γ (b := b) (c := c) (I := memM I (nI t) (t + 1)) (J := J) n t part w (mayB I (nI t) t) (by omega) ht e5 (fun x hx => memM_at (by omega) hx) 256 0 none 0 J1 rfl (fun q e => by cases e) hj1
        rw [nI_0] at h
        refine r_post (fun v S1 I1 J2 hp => ?_) h
        obtain ⟨p1, p2, p3, p4⟩ := hp
        refine ⟨?_, p2, fun a q => by rw [← p3]; exact memM_ne q, p4⟩
        rw [← p1, boxV, boxB, ha, h25s, h35s]
        simp only [Bool.and_self, if_true, nv_nI (show n < 2 ^ 31 by omega)]
        rw [boxS_c (I := I) (P := fun z => pthA I z n) (fun a h => memM_ne h) (fun z => pthA_eq ht et)]
      · have h35 : (bi (inB w 0 1)) = (0 : Int32) := Classical.not_not.mp h350
        have h35s := bi_0.mp h35
        refine r_run okX12_box 1 (cs := []) (σ' := (39, [some (.ref 100), some (.int (nI n)), some (.int part), some (.int w), none, none, none, none, none, none], [.int (-1)], (SS b c), I, J, 0, 0)) rfl trivial ?_
        refine r_iret okX12_box rfl rfl rfl (Nat.le_refl _) (Nat.le_refl _) ?_
        exact ⟨by simp [boxV, boxB, ha, *], rfl, fun a q => rfl, fun a q => rfl⟩
theorem c_Mbox0 (γ : GE) {b c : Bool} {I : AI} {J : AJ} (hI : MBase I) (n part w : Int32) (ha : spnB n = false) : Ct γ mX12_box 4 0 0 [.ref 100, .int n, .int part, .int w] (SS b c) I J (rI2 (boxV I n part w) (SS b c) I J) := by
  have htt := told0 hI.1
  refine ct_of okX12_box (L := [some (.ref 100), some (.int n), some (.int part), some (.int w), none, none, none, none, none, none]) (Nat.le_of_ble_eq_true rfl) rfl ?_
  refine r_run okX12_box 7 (cs := []) (σ' := (10, [some (.ref 100), some (.int n), some (.int part), some (.int w), none, none, none, none, none, none], [.int 12, .int 1, .int n, .ref 100], (SS b c), (upI I 100 0 0), J, 0, 0)) rfl trivial ?_
  simp only [htt]
  show Rj _ _ _ _ _ _ (10, [some (.ref 100), some (.int n), some (.int part), some (.int w), none, none, none, none, none, none], [.int 12, .int 1, .int n, .ref 100], (SS b c), I, J, 0, 0)
  refine r_callV okX12_box okX12_isIn [.int n, .int 1, .int 12] [] 100 rfl rfl rfl kkX12_isIn rfl rfl (by decide) rfl rfl rfl (by decide) ⟨Nat.le_refl _, Nat.le_refl _⟩ (Nat.le_of_ble_eq_true rfl) (c_isIn γ n 1 12) (fun v1 S1 I1 J1 hp => ?_)
  obtain ⟨rfl, rfl, rfl, rfl⟩ := hp
  show Rj _ _ _ _ _ _ (13, [some (.ref 100), some (.int n), some (.int part), some (.int w), none, none, none, none, none, none], [.int (bi (inB n 1 12))], (SS b c), I, J, 0, 0)
  refine r_ifc okX12_box rfl (fun (h13 : (bi (inB n 1 12)) = (0 : Int32)) => ?_) (fun (h13 : ¬ (bi (inB n 1 12)) = (0 : Int32)) => ?_)
  · have h13s := bi_0.mp h13
    refine r_run okX12_box 1 (cs := []) (σ' := (39, [some (.ref 100), some (.int n), some (.int part), some (.int w), none, none, none, none, none, none], [.int (-1)], (SS b c), I, J, 0, 0)) rfl trivial ?_
    refine r_iret okX12_box rfl rfl rfl (Nat.le_refl _) (Nat.le_refl _) ?_
    exact ⟨by simp [boxV, boxB, ha], rfl, fun a q => rfl, fun a q => rfl⟩
  · have h13s := bi_n0.mp h13
    exact absurd (bi_n0.mp h13) (by rw [show inB n 1 12 = false from ha]; decide)
theorem c_Mbox (γ : GE) {b c : Bool} {I : AI} {J : AJ} (hI : MBase I) (n part w : Int32) : Ct γ mX12_box 4 0 0 [.ref 100, .int n, .int part, .int w] (SS b c) I J (rI2 (boxV I n part w) (SS b c) I J) := by
  cases ha : spnB n with
  | false => exact c_Mbox0 γ hI n part w ha
  | true =>
    obtain ⟨k, h1, h2, rfl⟩ := spn_nat ha
    exact c_Mbox1 γ hI k part w h2 ha
