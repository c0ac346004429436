/-! ===== the office reads: all tokens; lines; the whole tape ===== -/
def qT (a b : Nat) : Bool := (a == 95 && b == 5) || (a == 97 || (a == 98 || a == 99))
theorem t_ixT (γ : GE) {S : List Sh} {I : AI} {J : AJ} {v : Int32} (h : rg 256 v) : Ct γ mJ0_indexOf_0f7a4 3 0 0 [.retAddr 3, .int v] S I J (rI (ixF v 10 0) S I J) := by
  obtain ⟨m, hm, rfl⟩ := h; exact t_indexOf γ hm
theorem ix_v {v : Int32} (h : rg 256 v) : decide (ixF v 10 0 < 0) = !siB v ∧ (v.toUInt32 % 65536).toInt32 = v := by
  obtain ⟨m, hm, rfl⟩ := h; exact ix_si m hm
/-- the first k tokens lie in the rows -/
def TkP (T : Nat → Int32) (n k : Nat) (X : AI) : Prop := ∀ i, i < k → X 97 i = kK T n i ∧ X 99 i = nI (psN T n i) ∧ ¬ kK T n i = 17 ∧ (kK T n i = 16 → X 98 i = kV T n i) ∧ (rg 16 (kK T n i) → X 98 i = 0)
theorem TkP_s {T : Nat → Int32} {n k : Nat} {X Y : AI} (h : TkP T n k X) (h7 : ∀ j, ¬ j = k → Y 97 j = X 97 j) (h8 : ∀ j, ¬ j = k → Y 98 j = X 98 j) (h9 : ∀ j, ¬ j = k → Y 99 j = X 99 j) (g7 : Y 97 k = kK T n k) (g9 : Y 99 k = nI (psN T n k)) (gK : ¬ kK T n k = 17) (g8 : kK T n k = 16 → Y 98 k = kV T n k) (g8' : rg 16 (kK T n k) → Y 98 k = 0) : TkP T n (k + 1) Y := fun i hi => by
  by_cases e : i = k
  · subst e; exact ⟨g7, g9, gK, g8, g8'⟩
  · rw [h7 i e, h8 i e, h9 i e]; exact h i (by omega)
theorem TkP_5 {T : Nat → Int32} {n k : Nat} {X : AI} {v : Int32} (h : TkP T n k X) : TkP T n k (upI X 95 5 v) := by
  unfold TkP; rw [show upI X 95 5 v 97 = X 97 from upI_ne (by decide), show upI X 95 5 v 98 = X 98 from upI_ne (by decide), show upI X 95 5 v 99 = X 99 from upI_ne (by decide)]; exact h
theorem tk_17 {T : Nat → Int32} {n p : Nat} (h : p < n) : ¬ toK T n p = 17 := by
  unfold toK
  rw [if_neg (by omega)]
  split
  · split
    · decide
    · rename_i h1 h2
      rcases wdN_rg (T := T) (a := p) (z := toE T n p) with q | ⟨j, hj, e⟩
      · exact absurd q h2
      · rw [e]; exact fun z => absurd (nI_inj (b := 17) (by omega) (by decide) z) (by omega)
  · split
    · split <;> decide
    · split
      · rename_i h1; exact fun z => by rw [z] at h1; exact absurd h1 (by decide)
      · decide
theorem tk_16 {T : Nat → Int32} {n p : Nat} (h : p < n) (hd : diB (T p) = false) : ¬ toK T n p = 16 := by
  unfold toK
  rw [if_neg (by omega)]
  split
  · split
    · decide
    · rename_i h1 h2
      rcases wdN_rg (T := T) (a := p) (z := toE T n p) with q | ⟨j, hj, e⟩
      · exact absurd q h2
      · rw [e]; exact fun z => absurd (nI_inj (b := 16) (by omega) (by decide) z) (by omega)
  · rw [if_neg (by rw [hd]; decide)]
    split
    · rename_i h1; exact fun z => by rw [z] at h1; exact absurd h1 (by decide)
    · decide
theorem tk_rg {T : Nat → Int32} {n p : Nat} (h : p < n) (hl : leB (T p) = false) : ¬ rg 16 (toK T n p) := by
  unfold toK
  rw [if_neg (by omega), if_neg (by rw [hl]; decide)]
  have key : ∀ v : Int32, (v = 16 ∨ v = 18) → ¬ rg 16 v := fun v hv => by
    rintro ⟨j, hj, e⟩
    rcases hv with rfl | rfl
    · exact absurd (nI_inj (a := 16) (by decide) (by omega) e) (by omega)
    · exact absurd (nI_inj (a := 18) (by decide) (by omega) e) (by omega)
  split
  · split
    · exact key _ (Or.inl rfl)
    · exact key _ (Or.inr rfl)
  · split
    · rename_i h1
      rintro ⟨j, hj, e⟩
      rw [e] at h1
      have hh : ∀ j, j < 16 → siB (nI j) = false := by decide
      rw [hh j hj] at h1; cases h1
    · exact key _ (Or.inr rfl)
theorem le_di {v : Int32} (h : leB v = true) : diB v = false := by
  refine Bool.eq_false_iff.mpr fun q => ?_
  have q := inB_t.mp q
  unfold leB at h
  rw [Bool.or_eq_true] at h
  rcases h with h | h
  · exact absurd (Int32.le_trans (inB_t.mp h).1 q.2) (by decide)
  · exact absurd (Int32.le_trans (inB_t.mp h).1 q.2) (by decide)
theorem lp_sc (γ : GE) {b c : Bool} {J : AJ} {T : Nat → Int32} {n : Nat} {X0 : AI} : ∀ (m k p : Nat) (X : AI), n ≤ p + m → psN T n k = p → k ≤ p → p ≤ n → Tap T n X → X 95 5 = nI p → TkP T n k X → fr qT X0 X → Rj γ mX5_scan 6 0 0 (fun r S' I' J' => none = r ∧ (SS b c) = S' ∧ (fr qT X0 I' ∧ ∃ N, Tkn T n N I') ∧ J = J') (11, [some (.ref 95), some (.int (nI k))], [], (SS b c), X, J, 0, 0) := by
  intro m
  induction m with
  | zero =>
    intro k p X hm ep hk hp hX e5 hQ hf
    have hn := hX.1.1
    have e4 := hX.2.1
    have ck : (nI k).toNatClampNeg = k := nI_clamp (by omega)
    have cp : (nI p).toNatClampNeg = p := nI_clamp (by omega)
    refine r_run okX5_scan 4 (cs := []) (σ' := (19, [some (.ref 95), some (.int (nI k))], [.int (X 95 4), .int (X 95 5)], (SS b c), X, J, 0, 0)) rfl trivial ?_
    simp only [e5, e4]
    show Rj _ _ _ _ _ _ (19, [some (.ref 95), some (.int (nI k))], [.int (nI n), .int (nI p)], (SS b c), X, J, 0, 0)
    refine r_icmp okX5_scan rfl (fun (h19 : (nI n) ≤ (nI p)) => ?_) (fun (h19 : ¬ (nI n) ≤ (nI p)) => ?_)
    · refine r_run okX5_scan 11 (cs := [vp_in (nI k) 801, vp_in (nI k) 801]) (σ' := (173, [some (.ref 95), some (.int (nI k))], [], (SS b c), (upI (upI X 97 ((nI k).toNatClampNeg) 17) 99 ((nI k).toNatClampNeg) (X 95 4)), J, 0, 0)) rfl ⟨(vin (by omega) (by decide)), (vin (by omega) (by decide)), trivial⟩ ?_
      simp only [e4, ck]
      show Rj _ _ _ _ _ _ (173, [some (.ref 95), some (.int (nI k))], [], (SS b c), (upI (upI X 97 k 17) 99 k (nI n)), J, 0, 0)
      refine r_vret okX5_scan rfl rfl (Nat.le_refl _) (Nat.le_refl _) ?_
      have eK : kK T n k = 17 := by unfold kK toK; rw [ep, if_pos (by omega)]
      refine ⟨rfl, rfl, ⟨fr_t hf (fr_t (up_q rfl) (up_q rfl)), k, by omega, eK, fun i hi => ?_, fun i hi => ?_⟩, rfl⟩
      · by_cases e : i = k
        · subst e
          refine ⟨?_, ?_⟩
          · rw [upI_ne (by decide), upI_s, eK]
          · rw [upI_s, ep, show p = n by omega]
        · have z := hQ i (by omega)
          refine ⟨?_, ?_⟩
          · rw [upI_ne (by decide), upI_n e]; exact z.1
          · rw [upI_n e, upI_ne (by decide)]; exact z.2.1
      · have z := hQ i hi
        rw [upI_ne (by decide), upI_ne (by decide)]
        exact z.2.2
    · exact absurd (nI_ge' (by omega) (by omega)) h19
  | succ m ih =>
    intro k p X hm ep hk hp hX e5 hQ hf
    have hn := hX.1.1
    have e4 := hX.2.1
    have ck : (nI k).toNatClampNeg = k := nI_clamp (by omega)
    have cp : (nI p).toNatClampNeg = p := nI_clamp (by omega)
    by_cases hpn : n ≤ p
    · refine r_run okX5_scan 4 (cs := []) (σ' := (19, [some (.ref 95), some (.int (nI k))], [.int (X 95 4), .int (X 95 5)], (SS b c), X, J, 0, 0)) rfl trivial ?_
      simp only [e5, e4]
      show Rj _ _ _ _ _ _ (19, [some (.ref 95), some (.int (nI k))], [.int (nI n), .int (nI p)], (SS b c), X, J, 0, 0)
      refine r_icmp okX5_scan rfl (fun (h19 : (nI n) ≤ (nI p)) => ?_) (fun (h19 : ¬ (nI n) ≤ (nI p)) => ?_)
      · refine r_run okX5_scan 11 (cs := [vp_in (nI k) 801, vp_in (nI k) 801]) (σ' := (173, [some (.ref 95), some (.int (nI k))], [], (SS b c), (upI (upI X 97 ((nI k).toNatClampNeg) 17) 99 ((nI k).toNatClampNeg) (X 95 4)), J, 0, 0)) rfl ⟨(vin (by omega) (by decide)), (vin (by omega) (by decide)), trivial⟩ ?_
        simp only [e4, ck]
        show Rj _ _ _ _ _ _ (173, [some (.ref 95), some (.int (nI k))], [], (SS b c), (upI (upI X 97 k 17) 99 k (nI n)), J, 0, 0)
        refine r_vret okX5_scan rfl rfl (Nat.le_refl _) (Nat.le_refl _) ?_
        have eK : kK T n k = 17 := by unfold kK toK; rw [ep, if_pos (by omega)]
        refine ⟨rfl, rfl, ⟨fr_t hf (fr_t (up_q rfl) (up_q rfl)), k, by omega, eK, fun i hi => ?_, fun i hi => ?_⟩, rfl⟩
        · by_cases e : i = k
          · subst e
            refine ⟨?_, ?_⟩
            · rw [upI_ne (by decide), upI_s, eK]
            · rw [upI_s, ep, show p = n by omega]
          · have z := hQ i (by omega)
            refine ⟨?_, ?_⟩
            · rw [upI_ne (by decide), upI_n e]; exact z.1
            · rw [upI_n e, upI_ne (by decide)]; exact z.2.1
        · have z := hQ i hi
          rw [upI_ne (by decide), upI_ne (by decide)]
          exact z.2.2
      · exact absurd (nI_ge' (by omega) (by omega)) h19
    have hpn : p < n := by omega
    have e96 := hX.2.2 p hpn
    have hE := toE_lt (T := T) hpn
    have hS := skE_le (T := T) (n := n) (p := toE T n p) hE.2
    have eS : psN T n (k + 1) = skE T n (toE T n p) := by rw [psN, ep]
    have h17 : ¬ kK T n k = 17 := by unfold kK; rw [ep]; exact tk_17 hpn
    have eKK : kK T n k = toK T n p := by unfold kK; rw [ep]
    have eVV : kV T n k = toV T n p := by unfold kV; rw [ep]
    cases hl : leB (T p) with
    | true =>
      have hd : diB (T p) = false := le_di hl
      have hX2 : Tap T n (upI (upI X 99 k (nI p)) 98 k 0) := ⟨hX.1, hX.2.1, fun i hi => hX.2.2 i hi⟩
      have e52 : upI (upI X 99 k (nI p)) 98 k 0 95 5 = nI p := e5
      refine r_run okX5_scan 4 (cs := []) (σ' := (19, [some (.ref 95), some (.int (nI k))], [.int (X 95 4), .int (X 95 5)], (SS b c), X, J, 0, 0)) rfl trivial ?_
      simp only [e5, e4]
      show Rj _ _ _ _ _ _ (19, [some (.ref 95), some (.int (nI k))], [.int (nI n), .int (nI p)], (SS b c), X, J, 0, 0)
      refine r_icmp okX5_scan rfl (fun (h19 : (nI n) ≤ (nI p)) => ?_) (fun (h19 : ¬ (nI n) ≤ (nI p)) => ?_)
      · exact absurd h19 (nI_ge (by omega) (by omega))
      · refine r_run okX5_scan 2 (cs := []) (σ' := (26, [some (.ref 95), some (.int (nI k))], [.int 800, .int (nI k)], (SS b c), X, J, 0, 0)) rfl trivial ?_
        refine r_icmp okX5_scan rfl (fun (h26 : (800 : Int32) ≤ (nI k)) => ?_) (fun (h26 : ¬ (800 : Int32) ≤ (nI k)) => ?_)
        · exact absurd h26 (nI_ge (b := 800) (by omega) (by decide))
        · refine r_run okX5_scan 16 (cs := [vp_in (nI k) 801, vp_in (nI k) 801, vp_in (X 95 5) 800]) (σ' := (55, [some (.ref 95), some (.int (nI k))], [.int (X 96 ((X 95 5).toNatClampNeg))], (SS b c), (upI (upI X 99 ((nI k).toNatClampNeg) (X 95 5)) 98 ((nI k).toNatClampNeg) 0), J, 0, 0)) rfl ⟨(by first | (rw [e5]; exact vin (by omega) (by decide)) | exact vin (by omega) (by decide)), (by first | (rw [e5]; exact vin (by omega) (by decide)) | exact vin (by omega) (by decide)), (by first | (rw [e5]; exact vin (by omega) (by decide)) | exact vin (by omega) (by decide)), trivial⟩ ?_
          simp only [e5, ck, cp, e96]
          show Rj _ _ _ _ _ _ (55, [some (.ref 95), some (.int (nI k))], [.int (T p)], (SS b c), (upI (upI X 99 k (nI p)) 98 k 0), J, 0, 0)
          refine r_callS okX5_scan okX5_isLetter [.int (T p)] [] rfl rfl rfl kkX5_isLetter rfl rfl (by decide) (by decide) ⟨Nat.le_refl _, Nat.le_refl _⟩ (Nat.le_of_ble_eq_true rfl) (hl ▸ t_let γ (T p)) (fun v1 S1 I1 J1 hp => ?_)
          obtain ⟨rfl, rfl, rfl, rfl⟩ := hp
          show Rj _ _ _ _ _ _ (58, [some (.ref 95), some (.int (nI k))], [.int 1], (SS b c), (upI (upI X 99 k (nI p)) 98 k 0), J, 0, 0)
          refine r_ifc okX5_scan rfl (fun (h58 : (1 : Int32) = (0 : Int32)) => ?_) (fun (h58 : ¬ (1 : Int32) = (0 : Int32)) => ?_)
          · exact absurd h58 (by decide)
          · refine r_run okX5_scan 4 (cs := []) (σ' := (67, [some (.ref 95), some (.int (nI k))], [.ref 95, .int (nI k), .ref 97], (SS b c), (upI (upI X 99 k (nI p)) 98 k 0), J, 0, 0)) rfl trivial ?_
            refine r_callV okX5_scan okX5_scanWord [] [.int (nI k), .ref 97] 95 rfl rfl rfl kkX5_scanWord rfl rfl (by decide) rfl rfl rfl (by decide) ⟨Nat.le_refl _, Nat.le_refl _⟩ (Nat.le_of_ble_eq_true rfl) (t_word γ hpn hX2 e52 hl) (fun v1 S1 I1 J1 hp => ?_)
            obtain ⟨rfl, rfl, rfl, rfl⟩ := hp
            show Rj _ _ _ _ _ _ (70, [some (.ref 95), some (.int (nI k))], [.int (toK T n p), .int (nI k), .ref 97], (SS b c), (upI (upI (upI X 99 k (nI p)) 98 k 0) 95 5 (nI (toE T n p))), J, 0, 0)
            refine r_run okX5_scan 2 (cs := [vp_in (nI k) 801]) (σ' := (145, [some (.ref 95), some (.int (nI k))], [], (SS b c), (upI (upI (upI (upI X 99 k (nI p)) 98 k 0) 95 5 (nI (toE T n p))) 97 ((nI k).toNatClampNeg) (toK T n p)), J, 0, 0)) rfl ⟨(by first | (rw [e5]; exact vin (by omega) (by decide)) | exact vin (by omega) (by decide)), trivial⟩ ?_
            simp only [ck]
            show Rj _ _ _ _ _ _ (145, [some (.ref 95), some (.int (nI k))], [], (SS b c), (upI (upI (upI (upI X 99 k (nI p)) 98 k 0) 95 5 (nI (toE T n p))) 97 k (toK T n p)), J, 0, 0)
            have hY : fr qT X (upI (upI (upI (upI X 99 k (nI p)) 98 k 0) 95 5 (nI (toE T n p))) 97 k (toK T n p)) := (fr_t (fr_t (fr_t (up_q rfl) (up_q rfl)) (up_q rfl)) (up_q rfl))
            have hXY : Tap T n (upI (upI (upI (upI X 99 k (nI p)) 98 k 0) 95 5 (nI (toE T n p))) 97 k (toK T n p)) := ⟨hX.1, (hY 95 4 rfl).trans hX.2.1, fun i hi => by rw [fr_c hY 96 (fun _ => rfl)]; exact hX.2.2 i hi⟩
            have e5Y : (upI (upI (upI (upI X 99 k (nI p)) 98 k 0) 95 5 (nI (toE T n p))) 97 k (toK T n p)) 95 5 = nI (toE T n p) := by simp [upI]
            show Rj _ _ _ _ _ _ (145, [some (.ref 95), some (.int (nI k))], [], (SS b c), (upI (upI (upI (upI X 99 k (nI p)) 98 k 0) 95 5 (nI (toE T n p))) 97 k (toK T n p)), J, 0, 0)
            refine r_run okX5_scan 2 (cs := []) (σ' := (149, [some (.ref 95), some (.int ((nI k) + 1))], [.ref 95], (SS b c), (upI (upI (upI (upI X 99 k (nI p)) 98 k 0) 95 5 (nI (toE T n p))) 97 k (toK T n p)), J, 0, 0)) rfl trivial ?_
            refine r_callV okX5_scan okX5_skipBlanks [] [] 95 rfl rfl rfl kkX5_skipBlanks rfl rfl (by decide) rfl rfl rfl (by decide) ⟨Nat.le_refl _, Nat.le_refl _⟩ (Nat.le_of_ble_eq_true rfl) (t_skip γ (p := (toE T n p)) (by omega) hXY e5Y) (fun v1 S1 I1 J1 hp => ?_)
            obtain ⟨rfl, rfl, rfl, rfl⟩ := hp
            show Rj _ _ _ _ _ _ (152, [some (.ref 95), some (.int ((nI k) + 1))], [], (SS b c), (upI (upI (upI (upI (upI X 99 k (nI p)) 98 k 0) 95 5 (nI (toE T n p))) 97 k (toK T n p)) 95 5 (nI (skE T n (toE T n p)))), J, 0, 0)
            refine r_run okX5_scan 1 (cs := []) (σ' := (11, [some (.ref 95), some (.int ((nI k) + 1))], [], (SS b c), (upI (upI (upI (upI (upI X 99 k (nI p)) 98 k 0) 95 5 (nI (toE T n p))) 97 k (toK T n p)) 95 5 (nI (skE T n (toE T n p)))), J, 0, 0)) rfl trivial ?_
            rw [← nI_succ]
            refine ih (k + 1) (skE T n (toE T n p)) _ (by omega) eS (by omega) hS.2 ?_ upI_s ?_ (fr_t (fr_t hf hY) (up_q rfl))
            · refine Tap_5 ?_
              exact ⟨hX.1, (hY 95 4 rfl).trans hX.2.1, fun i hi => by rw [fr_c hY 96 (fun _ => rfl)]; exact hX.2.2 i hi⟩
            · refine TkP_5 ?_
              refine TkP_s hQ (fun j hj => ?_) (fun j hj => ?_) (fun j hj => ?_) ?_ ?_ h17 (fun z => ?_) (fun z => ?_)
              · simp [upI, hj]
              · simp [upI, hj]
              · simp [upI, hj]
              · rw [eKK]; simp [upI]
              · rw [ep]; simp [upI]
              · exact absurd (eKK ▸ z) (tk_16 hpn hd)
              · simp [upI]
    | false =>
      cases hd : diB (T p) with
      | true =>
        have hX2 : Tap T n (upI (upI X 99 k (nI p)) 98 k 0) := ⟨hX.1, hX.2.1, fun i hi => hX.2.2 i hi⟩
        have e52 : upI (upI X 99 k (nI p)) 98 k 0 95 5 = nI p := e5
        refine r_run okX5_scan 4 (cs := []) (σ' := (19, [some (.ref 95), some (.int (nI k))], [.int (X 95 4), .int (X 95 5)], (SS b c), X, J, 0, 0)) rfl trivial ?_
        simp only [e5, e4]
        show Rj _ _ _ _ _ _ (19, [some (.ref 95), some (.int (nI k))], [.int (nI n), .int (nI p)], (SS b c), X, J, 0, 0)
        refine r_icmp okX5_scan rfl (fun (h19 : (nI n) ≤ (nI p)) => ?_) (fun (h19 : ¬ (nI n) ≤ (nI p)) => ?_)
        · exact absurd h19 (nI_ge (by omega) (by omega))
        · refine r_run okX5_scan 2 (cs := []) (σ' := (26, [some (.ref 95), some (.int (nI k))], [.int 800, .int (nI k)], (SS b c), X, J, 0, 0)) rfl trivial ?_
          refine r_icmp okX5_scan rfl (fun (h26 : (800 : Int32) ≤ (nI k)) => ?_) (fun (h26 : ¬ (800 : Int32) ≤ (nI k)) => ?_)
          · exact absurd h26 (nI_ge (b := 800) (by omega) (by decide))
          · refine r_run okX5_scan 16 (cs := [vp_in (nI k) 801, vp_in (nI k) 801, vp_in (X 95 5) 800]) (σ' := (55, [some (.ref 95), some (.int (nI k))], [.int (X 96 ((X 95 5).toNatClampNeg))], (SS b c), (upI (upI X 99 ((nI k).toNatClampNeg) (X 95 5)) 98 ((nI k).toNatClampNeg) 0), J, 0, 0)) rfl ⟨(by first | (rw [e5]; exact vin (by omega) (by decide)) | exact vin (by omega) (by decide)), (by first | (rw [e5]; exact vin (by omega) (by decide)) | exact vin (by omega) (by decide)), (by first | (rw [e5]; exact vin (by omega) (by decide)) | exact vin (by omega) (by decide)), trivial⟩ ?_
            simp only [e5, ck, cp, e96]
            show Rj _ _ _ _ _ _ (55, [some (.ref 95), some (.int (nI k))], [.int (T p)], (SS b c), (upI (upI X 99 k (nI p)) 98 k 0), J, 0, 0)
            refine r_callS okX5_scan okX5_isLetter [.int (T p)] [] rfl rfl rfl kkX5_isLetter rfl rfl (by decide) (by decide) ⟨Nat.le_refl _, Nat.le_refl _⟩ (Nat.le_of_ble_eq_true rfl) (hl ▸ t_let γ (T p)) (fun v1 S1 I1 J1 hp => ?_)
            obtain ⟨rfl, rfl, rfl, rfl⟩ := hp
            show Rj _ _ _ _ _ _ (58, [some (.ref 95), some (.int (nI k))], [.int 0], (SS b c), (upI (upI X 99 k (nI p)) 98 k 0), J, 0, 0)
            refine r_ifc okX5_scan rfl (fun (h58 : (0 : Int32) = (0 : Int32)) => ?_) (fun (h58 : ¬ (0 : Int32) = (0 : Int32)) => ?_)
            · refine r_run okX5_scan 5 (cs := [vp_in (X 95 5) 800]) (σ' := (83, [some (.ref 95), some (.int (nI k))], [.int (X 96 ((X 95 5).toNatClampNeg))], (SS b c), (upI (upI X 99 k (nI p)) 98 k 0), J, 0, 0)) rfl ⟨(by first | (rw [e5]; exact vin (by omega) (by decide)) | exact vin (by omega) (by decide)), trivial⟩ ?_
              simp only [e5, cp, e96]
              show Rj _ _ _ _ _ _ (83, [some (.ref 95), some (.int (nI k))], [.int (T p)], (SS b c), (upI (upI X 99 k (nI p)) 98 k 0), J, 0, 0)
              refine r_callS okX5_scan okX5_isDigit [.int (T p)] [] rfl rfl rfl kkX5_isDigit rfl rfl (by decide) (by decide) ⟨Nat.le_refl _, Nat.le_refl _⟩ (Nat.le_of_ble_eq_true rfl) (hd ▸ t_dig γ (T p)) (fun v1 S1 I1 J1 hp => ?_)
              obtain ⟨rfl, rfl, rfl, rfl⟩ := hp
              show Rj _ _ _ _ _ _ (86, [some (.ref 95), some (.int (nI k))], [.int 1], (SS b c), (upI (upI X 99 k (nI p)) 98 k 0), J, 0, 0)
              refine r_ifc okX5_scan rfl (fun (h86 : (1 : Int32) = (0 : Int32)) => ?_) (fun (h86 : ¬ (1 : Int32) = (0 : Int32)) => ?_)
              · exact absurd h86 (by decide)
              · refine r_run okX5_scan 2 (cs := []) (σ' := (91, [some (.ref 95), some (.int (nI k))], [.int (nI k), .ref 95], (SS b c), (upI (upI X 99 k (nI p)) 98 k 0), J, 0, 0)) rfl trivial ?_
                refine r_callV okX5_scan okX5_scanNumber [.int (nI k)] [] 95 rfl rfl rfl kkX5_scanNumber rfl rfl (by decide) rfl rfl rfl (by decide) ⟨Nat.le_refl _, Nat.le_refl _⟩ (Nat.le_of_ble_eq_true rfl) (t_num γ (by omega) hpn hX2 e52 hl hd) (fun v1 S1 I1 J1 hp => ?_)
                obtain ⟨rfl, rfl, rfl, rfl⟩ := hp
                show Rj _ _ _ _ _ _ (94, [some (.ref 95), some (.int (nI k))], [], (SS b c), (upI (upI (upI (upI (upI X 99 k (nI p)) 98 k 0) 95 5 (nI (toE T n p))) 97 k (toK T n p)) 98 k (toV T n p)), J, 0, 0)
                refine r_run okX5_scan 1 (cs := []) (σ' := (145, [some (.ref 95), some (.int (nI k))], [], (SS b c), (upI (upI (upI (upI (upI X 99 k (nI p)) 98 k 0) 95 5 (nI (toE T n p))) 97 k (toK T n p)) 98 k (toV T n p)), J, 0, 0)) rfl trivial ?_
                have hY : fr qT X (upI (upI (upI (upI (upI X 99 k (nI p)) 98 k 0) 95 5 (nI (toE T n p))) 97 k (toK T n p)) 98 k (toV T n p)) := (fr_t (fr_t (fr_t (fr_t (up_q rfl) (up_q rfl)) (up_q rfl)) (up_q rfl)) (up_q rfl))
                have hXY : Tap T n (upI (upI (upI (upI (upI X 99 k (nI p)) 98 k 0) 95 5 (nI (toE T n p))) 97 k (toK T n p)) 98 k (toV T n p)) := ⟨hX.1, (hY 95 4 rfl).trans hX.2.1, fun i hi => by rw [fr_c hY 96 (fun _ => rfl)]; exact hX.2.2 i hi⟩
                have e5Y : (upI (upI (upI (upI (upI X 99 k (nI p)) 98 k 0) 95 5 (nI (toE T n p))) 97 k (toK T n p)) 98 k (toV T n p)) 95 5 = nI (toE T n p) := by simp [upI]
                show Rj _ _ _ _ _ _ (145, [some (.ref 95), some (.int (nI k))], [], (SS b c), (upI (upI (upI (upI (upI X 99 k (nI p)) 98 k 0) 95 5 (nI (toE T n p))) 97 k (toK T n p)) 98 k (toV T n p)), J, 0, 0)
                refine r_run okX5_scan 2 (cs := []) (σ' := (149, [some (.ref 95), some (.int ((nI k) + 1))], [.ref 95], (SS b c), (upI (upI (upI (upI (upI X 99 k (nI p)) 98 k 0) 95 5 (nI (toE T n p))) 97 k (toK T n p)) 98 k (toV T n p)), J, 0, 0)) rfl trivial ?_
                refine r_callV okX5_scan okX5_skipBlanks [] [] 95 rfl rfl rfl kkX5_skipBlanks rfl rfl (by decide) rfl rfl rfl (by decide) ⟨Nat.le_refl _, Nat.le_refl _⟩ (Nat.le_of_ble_eq_true rfl) (t_skip γ (p := (toE T n p)) (by omega) hXY e5Y) (fun v1 S1 I1 J1 hp => ?_)
                obtain ⟨rfl, rfl, rfl, rfl⟩ := hp
                show Rj _ _ _ _ _ _ (152, [some (.ref 95), some (.int ((nI k) + 1))], [], (SS b c), (upI (upI (upI (upI (upI (upI X 99 k (nI p)) 98 k 0) 95 5 (nI (toE T n p))) 97 k (toK T n p)) 98 k (toV T n p)) 95 5 (nI (skE T n (toE T n p)))), J, 0, 0)
                refine r_run okX5_scan 1 (cs := []) (σ' := (11, [some (.ref 95), some (.int ((nI k) + 1))], [], (SS b c), (upI (upI (upI (upI (upI (upI X 99 k (nI p)) 98 k 0) 95 5 (nI (toE T n p))) 97 k (toK T n p)) 98 k (toV T n p)) 95 5 (nI (skE T n (toE T n p)))), J, 0, 0)) rfl trivial ?_
                rw [← nI_succ]
                refine ih (k + 1) (skE T n (toE T n p)) _ (by omega) eS (by omega) hS.2 ?_ upI_s ?_ (fr_t (fr_t hf hY) (up_q rfl))
                · refine Tap_5 ?_
                  exact ⟨hX.1, (hY 95 4 rfl).trans hX.2.1, fun i hi => by rw [fr_c hY 96 (fun _ => rfl)]; exact hX.2.2 i hi⟩
                · refine TkP_5 ?_
                  refine TkP_s hQ (fun j hj => ?_) (fun j hj => ?_) (fun j hj => ?_) ?_ ?_ h17 (fun z => ?_) (fun z => ?_)
                  · simp [upI, hj]
                  · simp [upI, hj]
                  · simp [upI, hj]
                  · rw [eKK]; simp [upI]
                  · rw [ep]; simp [upI]
                  · rw [eVV]; simp [upI]
                  · exact absurd (eKK ▸ z) (tk_rg hpn hl)
            · exact absurd h58 (by decide)
      | false =>
        have hix0 := ix_v (hX.1.2 p hpn)
        have ec := hix0.2
        have eE1 : toE T n p = p + 1 := by unfold toE; rw [if_neg (by omega), if_neg (by rw [hl]; decide), if_neg (by rw [hd]; decide)]
        cases hs : siB (T p) with
        | true =>
          have hix : ¬ ixF (T p) 10 0 < 0 := of_decide_eq_false (by rw [hix0.1, hs]; rfl)
          have eT : toK T n p = T p := by unfold toK; rw [if_neg (by omega), if_neg (by rw [hl]; decide), if_neg (by rw [hd]; decide), if_pos hs]
          refine r_run okX5_scan 4 (cs := []) (σ' := (19, [some (.ref 95), some (.int (nI k))], [.int (X 95 4), .int (X 95 5)], (SS b c), X, J, 0, 0)) rfl trivial ?_
          simp only [e5, e4]
          show Rj _ _ _ _ _ _ (19, [some (.ref 95), some (.int (nI k))], [.int (nI n), .int (nI p)], (SS b c), X, J, 0, 0)
          refine r_icmp okX5_scan rfl (fun (h19 : (nI n) ≤ (nI p)) => ?_) (fun (h19 : ¬ (nI n) ≤ (nI p)) => ?_)
          · exact absurd h19 (nI_ge (by omega) (by omega))
          · refine r_run okX5_scan 2 (cs := []) (σ' := (26, [some (.ref 95), some (.int (nI k))], [.int 800, .int (nI k)], (SS b c), X, J, 0, 0)) rfl trivial ?_
            refine r_icmp okX5_scan rfl (fun (h26 : (800 : Int32) ≤ (nI k)) => ?_) (fun (h26 : ¬ (800 : Int32) ≤ (nI k)) => ?_)
            · exact absurd h26 (nI_ge (b := 800) (by omega) (by decide))
            · refine r_run okX5_scan 16 (cs := [vp_in (nI k) 801, vp_in (nI k) 801, vp_in (X 95 5) 800]) (σ' := (55, [some (.ref 95), some (.int (nI k))], [.int (X 96 ((X 95 5).toNatClampNeg))], (SS b c), (upI (upI X 99 ((nI k).toNatClampNeg) (X 95 5)) 98 ((nI k).toNatClampNeg) 0), J, 0, 0)) rfl ⟨(by first | (rw [e5]; exact vin (by omega) (by decide)) | exact vin (by omega) (by decide)), (by first | (rw [e5]; exact vin (by omega) (by decide)) | exact vin (by omega) (by decide)), (by first | (rw [e5]; exact vin (by omega) (by decide)) | exact vin (by omega) (by decide)), trivial⟩ ?_
              simp only [e5, ck, cp, e96]
              show Rj _ _ _ _ _ _ (55, [some (.ref 95), some (.int (nI k))], [.int (T p)], (SS b c), (upI (upI X 99 k (nI p)) 98 k 0), J, 0, 0)
              refine r_callS okX5_scan okX5_isLetter [.int (T p)] [] rfl rfl rfl kkX5_isLetter rfl rfl (by decide) (by decide) ⟨Nat.le_refl _, Nat.le_refl _⟩ (Nat.le_of_ble_eq_true rfl) (hl ▸ t_let γ (T p)) (fun v1 S1 I1 J1 hp => ?_)
              obtain ⟨rfl, rfl, rfl, rfl⟩ := hp
              show Rj _ _ _ _ _ _ (58, [some (.ref 95), some (.int (nI k))], [.int 0], (SS b c), (upI (upI X 99 k (nI p)) 98 k 0), J, 0, 0)
              refine r_ifc okX5_scan rfl (fun (h58 : (0 : Int32) = (0 : Int32)) => ?_) (fun (h58 : ¬ (0 : Int32) = (0 : Int32)) => ?_)
              · refine r_run okX5_scan 5 (cs := [vp_in (X 95 5) 800]) (σ' := (83, [some (.ref 95), some (.int (nI k))], [.int (X 96 ((X 95 5).toNatClampNeg))], (SS b c), (upI (upI X 99 k (nI p)) 98 k 0), J, 0, 0)) rfl ⟨(by first | (rw [e5]; exact vin (by omega) (by decide)) | exact vin (by omega) (by decide)), trivial⟩ ?_
                simp only [e5, cp, e96]
                show Rj _ _ _ _ _ _ (83, [some (.ref 95), some (.int (nI k))], [.int (T p)], (SS b c), (upI (upI X 99 k (nI p)) 98 k 0), J, 0, 0)
                refine r_callS okX5_scan okX5_isDigit [.int (T p)] [] rfl rfl rfl kkX5_isDigit rfl rfl (by decide) (by decide) ⟨Nat.le_refl _, Nat.le_refl _⟩ (Nat.le_of_ble_eq_true rfl) (hd ▸ t_dig γ (T p)) (fun v1 S1 I1 J1 hp => ?_)
                obtain ⟨rfl, rfl, rfl, rfl⟩ := hp
                show Rj _ _ _ _ _ _ (86, [some (.ref 95), some (.int (nI k))], [.int 0], (SS b c), (upI (upI X 99 k (nI p)) 98 k 0), J, 0, 0)
                refine r_ifc okX5_scan rfl (fun (h86 : (0 : Int32) = (0 : Int32)) => ?_) (fun (h86 : ¬ (0 : Int32) = (0 : Int32)) => ?_)
                · refine r_run okX5_scan 10 (cs := [vp_in (X 95 5) 800]) (σ' := (114, [some (.ref 95), some (.int (nI k))], [.int (((X 96 ((X 95 5).toNatClampNeg)).toUInt32 % 65536).toInt32), .retAddr 3, .int (nI k), .ref 97], (SS b c), (upI (upI X 99 k (nI p)) 98 k 0), J, 0, 0)) rfl ⟨(by first | (rw [e5]; exact vin (by omega) (by decide)) | exact vin (by omega) (by decide)), trivial⟩ ?_
                  simp only [e5, cp, e96, ec]
                  show Rj _ _ _ _ _ _ (114, [some (.ref 95), some (.int (nI k))], [.int (T p), .retAddr 3, .int (nI k), .ref 97], (SS b c), (upI (upI X 99 k (nI p)) 98 k 0), J, 0, 0)
                  refine r_callX okX5_scan okJ0_indexOf_0f7a4 [.int (T p)] [.int (nI k), .ref 97] (i := 1) (by decide) rfl rfl rfl kkJ0_indexOf_0f7a4 rfl rfl (by decide) rfl (by decide) ⟨Nat.le_refl _, Nat.le_refl _⟩ (Nat.le_of_ble_eq_true rfl) (t_ixT γ (hX.1.2 p hpn)) (fun v1 S1 I1 J1 hp => ?_)
                  obtain ⟨rfl, rfl, rfl, rfl⟩ := hp
                  show Rj _ _ _ _ _ _ (117, [some (.ref 95), some (.int (nI k))], [.int (ixF (T p) 10 0), .int (nI k), .ref 97], (SS b c), (upI (upI X 99 k (nI p)) 98 k 0), J, 0, 0)
                  refine r_ifc okX5_scan rfl (fun (h117 : (ixF (T p) 10 0) < (0 : Int32)) => ?_) (fun (h117 : ¬ (ixF (T p) 10 0) < (0 : Int32)) => ?_)
                  · exact absurd h117 hix
                  · refine r_run okX5_scan 13 (cs := [vp_in (X 95 5) 800, vp_in (nI k) 801]) (σ' := (145, [some (.ref 95), some (.int (nI k))], [], (SS b c), (upI (upI (upI (upI X 99 k (nI p)) 98 k 0) 97 ((nI k).toNatClampNeg) (X 96 ((X 95 5).toNatClampNeg))) 95 5 ((X 95 5) + 1)), J, 0, 0)) rfl ⟨(by first | (rw [e5]; exact vin (by omega) (by decide)) | exact vin (by omega) (by decide)), (by first | (rw [e5]; exact vin (by omega) (by decide)) | exact vin (by omega) (by decide)), trivial⟩ ?_
                    simp only [e5, ck, cp, e96, ← nI_succ]
                    show Rj _ _ _ _ _ _ (145, [some (.ref 95), some (.int (nI k))], [], (SS b c), (upI (upI (upI (upI X 99 k (nI p)) 98 k 0) 97 k (T p)) 95 5 (nI (p + 1))), J, 0, 0)
                    have hY : fr qT X (upI (upI (upI (upI X 99 k (nI p)) 98 k 0) 97 k (T p)) 95 5 (nI (p + 1))) := (fr_t (fr_t (fr_t (up_q rfl) (up_q rfl)) (up_q rfl)) (up_q rfl))
                    have hXY : Tap T n (upI (upI (upI (upI X 99 k (nI p)) 98 k 0) 97 k (T p)) 95 5 (nI (p + 1))) := ⟨hX.1, (hY 95 4 rfl).trans hX.2.1, fun i hi => by rw [fr_c hY 96 (fun _ => rfl)]; exact hX.2.2 i hi⟩
                    have e5Y : (upI (upI (upI (upI X 99 k (nI p)) 98 k 0) 97 k (T p)) 95 5 (nI (p + 1))) 95 5 = nI (p + 1) := by simp [upI]
                    show Rj _ _ _ _ _ _ (145, [some (.ref 95), some (.int (nI k))], [], (SS b c), (upI (upI (upI (upI X 99 k (nI p)) 98 k 0) 97 k (T p)) 95 5 (nI (p + 1))), J, 0, 0)
                    refine r_run okX5_scan 2 (cs := []) (σ' := (149, [some (.ref 95), some (.int ((nI k) + 1))], [.ref 95], (SS b c), (upI (upI (upI (upI X 99 k (nI p)) 98 k 0) 97 k (T p)) 95 5 (nI (p + 1))), J, 0, 0)) rfl trivial ?_
                    refine r_callV okX5_scan okX5_skipBlanks [] [] 95 rfl rfl rfl kkX5_skipBlanks rfl rfl (by decide) rfl rfl rfl (by decide) ⟨Nat.le_refl _, Nat.le_refl _⟩ (Nat.le_of_ble_eq_true rfl) (t_skip γ (p := (p + 1)) (by omega) hXY e5Y) (fun v1 S1 I1 J1 hp => ?_)
                    obtain ⟨rfl, rfl, rfl, rfl⟩ := hp
                    show Rj _ _ _ _ _ _ (152, [some (.ref 95), some (.int ((nI k) + 1))], [], (SS b c), (upI (upI (upI (upI (upI X 99 k (nI p)) 98 k 0) 97 k (T p)) 95 5 (nI (p + 1))) 95 5 (nI (skE T n (p + 1)))), J, 0, 0)
                    refine r_run okX5_scan 1 (cs := []) (σ' := (11, [some (.ref 95), some (.int ((nI k) + 1))], [], (SS b c), (upI (upI (upI (upI (upI X 99 k (nI p)) 98 k 0) 97 k (T p)) 95 5 (nI (p + 1))) 95 5 (nI (skE T n (p + 1)))), J, 0, 0)) rfl trivial ?_
                    rw [show skE T n (p + 1) = skE T n (toE T n p) by rw [eE1]]
                    rw [← nI_succ]
                    refine ih (k + 1) (skE T n (toE T n p)) _ (by omega) eS (by omega) hS.2 ?_ upI_s ?_ (fr_t (fr_t hf hY) (up_q rfl))
                    · refine Tap_5 ?_
                      exact ⟨hX.1, (hY 95 4 rfl).trans hX.2.1, fun i hi => by rw [fr_c hY 96 (fun _ => rfl)]; exact hX.2.2 i hi⟩
                    · refine TkP_5 ?_
                      refine TkP_s hQ (fun j hj => ?_) (fun j hj => ?_) (fun j hj => ?_) ?_ ?_ h17 (fun z => ?_) (fun z => ?_)
                      · simp [upI, hj]
                      · simp [upI, hj]
                      · simp [upI, hj]
                      · rw [eKK, eT]; simp [upI]
                      · rw [ep]; simp [upI]
                      · exact absurd (eKK ▸ z) (tk_16 hpn hd)
                      · simp [upI]
                · exact absurd h86 (by decide)
              · exact absurd h58 (by decide)
        | false =>
          have hix : ixF (T p) 10 0 < 0 := of_decide_eq_true (by rw [hix0.1, hs]; rfl)
          have eT : toK T n p = 18 := by unfold toK; rw [if_neg (by omega), if_neg (by rw [hl]; decide), if_neg (by rw [hd]; decide), if_neg (by rw [hs]; decide)]
          refine r_run okX5_scan 4 (cs := []) (σ' := (19, [some (.ref 95), some (.int (nI k))], [.int (X 95 4), .int (X 95 5)], (SS b c), X, J, 0, 0)) rfl trivial ?_
          simp only [e5, e4]
          show Rj _ _ _ _ _ _ (19, [some (.ref 95), some (.int (nI k))], [.int (nI n), .int (nI p)], (SS b c), X, J, 0, 0)
          refine r_icmp okX5_scan rfl (fun (h19 : (nI n) ≤ (nI p)) => ?_) (fun (h19 : ¬ (nI n) ≤ (nI p)) => ?_)
          · exact absurd h19 (nI_ge (by omega) (by omega))
          · refine r_run okX5_scan 2 (cs := []) (σ' := (26, [some (.ref 95), some (.int (nI k))], [.int 800, .int (nI k)], (SS b c), X, J, 0, 0)) rfl trivial ?_
            refine r_icmp okX5_scan rfl (fun (h26 : (800 : Int32) ≤ (nI k)) => ?_) (fun (h26 : ¬ (800 : Int32) ≤ (nI k)) => ?_)
            · exact absurd h26 (nI_ge (b := 800) (by omega) (by decide))
            · refine r_run okX5_scan 16 (cs := [vp_in (nI k) 801, vp_in (nI k) 801, vp_in (X 95 5) 800]) (σ' := (55, [some (.ref 95), some (.int (nI k))], [.int (X 96 ((X 95 5).toNatClampNeg))], (SS b c), (upI (upI X 99 ((nI k).toNatClampNeg) (X 95 5)) 98 ((nI k).toNatClampNeg) 0), J, 0, 0)) rfl ⟨(by first | (rw [e5]; exact vin (by omega) (by decide)) | exact vin (by omega) (by decide)), (by first | (rw [e5]; exact vin (by omega) (by decide)) | exact vin (by omega) (by decide)), (by first | (rw [e5]; exact vin (by omega) (by decide)) | exact vin (by omega) (by decide)), trivial⟩ ?_
              simp only [e5, ck, cp, e96]
              show Rj _ _ _ _ _ _ (55, [some (.ref 95), some (.int (nI k))], [.int (T p)], (SS b c), (upI (upI X 99 k (nI p)) 98 k 0), J, 0, 0)
              refine r_callS okX5_scan okX5_isLetter [.int (T p)] [] rfl rfl rfl kkX5_isLetter rfl rfl (by decide) (by decide) ⟨Nat.le_refl _, Nat.le_refl _⟩ (Nat.le_of_ble_eq_true rfl) (hl ▸ t_let γ (T p)) (fun v1 S1 I1 J1 hp => ?_)
              obtain ⟨rfl, rfl, rfl, rfl⟩ := hp
              show Rj _ _ _ _ _ _ (58, [some (.ref 95), some (.int (nI k))], [.int 0], (SS b c), (upI (upI X 99 k (nI p)) 98 k 0), J, 0, 0)
              refine r_ifc okX5_scan rfl (fun (h58 : (0 : Int32) = (0 : Int32)) => ?_) (fun (h58 : ¬ (0 : Int32) = (0 : Int32)) => ?_)
              · refine r_run okX5_scan 5 (cs := [vp_in (X 95 5) 800]) (σ' := (83, [some (.ref 95), some (.int (nI k))], [.int (X 96 ((X 95 5).toNatClampNeg))], (SS b c), (upI (upI X 99 k (nI p)) 98 k 0), J, 0, 0)) rfl ⟨(by first | (rw [e5]; exact vin (by omega) (by decide)) | exact vin (by omega) (by decide)), trivial⟩ ?_
                simp only [e5, cp, e96]
                show Rj _ _ _ _ _ _ (83, [some (.ref 95), some (.int (nI k))], [.int (T p)], (SS b c), (upI (upI X 99 k (nI p)) 98 k 0), J, 0, 0)
                refine r_callS okX5_scan okX5_isDigit [.int (T p)] [] rfl rfl rfl kkX5_isDigit rfl rfl (by decide) (by decide) ⟨Nat.le_refl _, Nat.le_refl _⟩ (Nat.le_of_ble_eq_true rfl) (hd ▸ t_dig γ (T p)) (fun v1 S1 I1 J1 hp => ?_)
                obtain ⟨rfl, rfl, rfl, rfl⟩ := hp
                show Rj _ _ _ _ _ _ (86, [some (.ref 95), some (.int (nI k))], [.int 0], (SS b c), (upI (upI X 99 k (nI p)) 98 k 0), J, 0, 0)
                refine r_ifc okX5_scan rfl (fun (h86 : (0 : Int32) = (0 : Int32)) => ?_) (fun (h86 : ¬ (0 : Int32) = (0 : Int32)) => ?_)
                · refine r_run okX5_scan 10 (cs := [vp_in (X 95 5) 800]) (σ' := (114, [some (.ref 95), some (.int (nI k))], [.int (((X 96 ((X 95 5).toNatClampNeg)).toUInt32 % 65536).toInt32), .retAddr 3, .int (nI k), .ref 97], (SS b c), (upI (upI X 99 k (nI p)) 98 k 0), J, 0, 0)) rfl ⟨(by first | (rw [e5]; exact vin (by omega) (by decide)) | exact vin (by omega) (by decide)), trivial⟩ ?_
                  simp only [e5, cp, e96, ec]
                  show Rj _ _ _ _ _ _ (114, [some (.ref 95), some (.int (nI k))], [.int (T p), .retAddr 3, .int (nI k), .ref 97], (SS b c), (upI (upI X 99 k (nI p)) 98 k 0), J, 0, 0)
                  refine r_callX okX5_scan okJ0_indexOf_0f7a4 [.int (T p)] [.int (nI k), .ref 97] (i := 1) (by decide) rfl rfl rfl kkJ0_indexOf_0f7a4 rfl rfl (by decide) rfl (by decide) ⟨Nat.le_refl _, Nat.le_refl _⟩ (Nat.le_of_ble_eq_true rfl) (t_ixT γ (hX.1.2 p hpn)) (fun v1 S1 I1 J1 hp => ?_)
                  obtain ⟨rfl, rfl, rfl, rfl⟩ := hp
                  show Rj _ _ _ _ _ _ (117, [some (.ref 95), some (.int (nI k))], [.int (ixF (T p) 10 0), .int (nI k), .ref 97], (SS b c), (upI (upI X 99 k (nI p)) 98 k 0), J, 0, 0)
                  refine r_ifc okX5_scan rfl (fun (h117 : (ixF (T p) 10 0) < (0 : Int32)) => ?_) (fun (h117 : ¬ (ixF (T p) 10 0) < (0 : Int32)) => ?_)
                  · refine r_run okX5_scan 8 (cs := [vp_in (nI k) 801]) (σ' := (145, [some (.ref 95), some (.int (nI k))], [], (SS b c), (upI (upI (upI (upI X 99 k (nI p)) 98 k 0) 97 ((nI k).toNatClampNeg) 18) 95 5 ((X 95 5) + 1)), J, 0, 0)) rfl ⟨(by first | (rw [e5]; exact vin (by omega) (by decide)) | exact vin (by omega) (by decide)), trivial⟩ ?_
                    simp only [e5, ck, ← nI_succ]
                    show Rj _ _ _ _ _ _ (145, [some (.ref 95), some (.int (nI k))], [], (SS b c), (upI (upI (upI (upI X 99 k (nI p)) 98 k 0) 97 k 18) 95 5 (nI (p + 1))), J, 0, 0)
                    have hY : fr qT X (upI (upI (upI (upI X 99 k (nI p)) 98 k 0) 97 k 18) 95 5 (nI (p + 1))) := (fr_t (fr_t (fr_t (up_q rfl) (up_q rfl)) (up_q rfl)) (up_q rfl))
                    have hXY : Tap T n (upI (upI (upI (upI X 99 k (nI p)) 98 k 0) 97 k 18) 95 5 (nI (p + 1))) := ⟨hX.1, (hY 95 4 rfl).trans hX.2.1, fun i hi => by rw [fr_c hY 96 (fun _ => rfl)]; exact hX.2.2 i hi⟩
                    have e5Y : (upI (upI (upI (upI X 99 k (nI p)) 98 k 0) 97 k 18) 95 5 (nI (p + 1))) 95 5 = nI (p + 1) := by simp [upI]
                    show Rj _ _ _ _ _ _ (145, [some (.ref 95), some (.int (nI k))], [], (SS b c), (upI (upI (upI (upI X 99 k (nI p)) 98 k 0) 97 k 18) 95 5 (nI (p + 1))), J, 0, 0)
                    refine r_run okX5_scan 2 (cs := []) (σ' := (149, [some (.ref 95), some (.int ((nI k) + 1))], [.ref 95], (SS b c), (upI (upI (upI (upI X 99 k (nI p)) 98 k 0) 97 k 18) 95 5 (nI (p + 1))), J, 0, 0)) rfl trivial ?_
                    refine r_callV okX5_scan okX5_skipBlanks [] [] 95 rfl rfl rfl kkX5_skipBlanks rfl rfl (by decide) rfl rfl rfl (by decide) ⟨Nat.le_refl _, Nat.le_refl _⟩ (Nat.le_of_ble_eq_true rfl) (t_skip γ (p := (p + 1)) (by omega) hXY e5Y) (fun v1 S1 I1 J1 hp => ?_)
                    obtain ⟨rfl, rfl, rfl, rfl⟩ := hp
                    show Rj _ _ _ _ _ _ (152, [some (.ref 95), some (.int ((nI k) + 1))], [], (SS b c), (upI (upI (upI (upI (upI X 99 k (nI p)) 98 k 0) 97 k 18) 95 5 (nI (p + 1))) 95 5 (nI (skE T n (p + 1)))), J, 0, 0)
                    refine r_run okX5_scan 1 (cs := []) (σ' := (11, [some (.ref 95), some (.int ((nI k) + 1))], [], (SS b c), (upI (upI (upI (upI (upI X 99 k (nI p)) 98 k 0) 97 k 18) 95 5 (nI (p + 1))) 95 5 (nI (skE T n (p + 1)))), J, 0, 0)) rfl trivial ?_
                    rw [show skE T n (p + 1) = skE T n (toE T n p) by rw [eE1]]
                    rw [← nI_succ]
                    refine ih (k + 1) (skE T n (toE T n p)) _ (by omega) eS (by omega) hS.2 ?_ upI_s ?_ (fr_t (fr_t hf hY) (up_q rfl))
                    · refine Tap_5 ?_
                      exact ⟨hX.1, (hY 95 4 rfl).trans hX.2.1, fun i hi => by rw [fr_c hY 96 (fun _ => rfl)]; exact hX.2.2 i hi⟩
                    · refine TkP_5 ?_
                      refine TkP_s hQ (fun j hj => ?_) (fun j hj => ?_) (fun j hj => ?_) ?_ ?_ h17 (fun z => ?_) (fun z => ?_)
                      · simp [upI, hj]
                      · simp [upI, hj]
                      · simp [upI, hj]
                      · rw [eKK, eT]; simp [upI]
                      · rw [ep]; simp [upI]
                      · exact absurd (eKK ▸ z) (tk_16 hpn hd)
                      · simp [upI]
                  · exact absurd hix h117
                · exact absurd h86 (by decide)
              · exact absurd h58 (by decide)
theorem t_scan (γ : GE) {b c : Bool} {J : AJ} {T : Nat → Int32} {n : Nat} {X0 : AI} (hX : Tap T n X0) : Ct γ mX5_scan 6 0 0 [.ref 95] (SS b c) X0 J (fun r S' I' J' => none = r ∧ (SS b c) = S' ∧ (fr qT X0 I' ∧ ∃ N, Tkn T n N I') ∧ J = J') := by
  refine ct_of okX5_scan (L := [some (.ref 95), none]) (Nat.le_of_ble_eq_true rfl) rfl ?_
  refine r_run okX5_scan 6 (cs := []) (σ' := (8, [some (.ref 95), some (.int 0)], [.ref 95], (SS b c), (upI X0 95 5 0), J, 0, 0)) rfl trivial ?_
  refine r_callV okX5_scan okX5_skipBlanks [] [] 95 rfl rfl rfl kkX5_skipBlanks rfl rfl (by decide) rfl rfl rfl (by decide) ⟨Nat.le_refl _, Nat.le_refl _⟩ (Nat.le_of_ble_eq_true rfl) (t_skip γ (p := 0) (by omega) (Tap_5 hX) upI_s) (fun v1 S1 I1 J1 hp => ?_)
  obtain ⟨rfl, rfl, rfl, rfl⟩ := hp
  show Rj _ _ _ _ _ _ (11, [some (.ref 95), some (.int 0)], [], (SS b c), (upI (upI X0 95 5 0) 95 5 (nI (skE T n 0))), J, 0, 0)
  have z := lp_sc γ (b := b) (c := c) (J := J) (T := T) (n := n) (X0 := X0) n 0 (skE T n 0) (upI (upI X0 95 5 0) 95 5 (nI (skE T n 0))) (by omega) rfl (by omega) (skE_le (Nat.zero_le _)).2 (Tap_5 (Tap_5 hX)) upI_s (fun i hi => absurd hi (by omega)) (fr_t (up_q rfl) (up_q rfl))
  rw [nI_0] at z
  exact z
