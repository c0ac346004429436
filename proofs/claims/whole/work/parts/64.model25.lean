/-! ===== the reference: minuteGoes, minutes ===== -/
def clM (v : Int32) : Int32 := if v < 1 then 1 else if 60 < v then 60 else v
/-- what the rules do to a county now -/
def ctyN (I : AI) (F : Nat → Nat → Bool) (ls : List Ln) (y : Int32) : AI := match lnN (ansV I F y) ls 0 with
  | none => I
  | some k => match ls[k]? with
    | none => I
    | some q => if q.1 = 2 then I else if q.1 = 1 then lifN I y else begN I y (clM (valC (ansV I F y) q.2.1))
def ctF (F : Nat → Nat → Bool) (ls : List Ln) : AI → Nat → Nat → AI
  | I, 0, _ => I
  | I, j + 1, y => ctF F ls (ctyN I F ls (nI y)) j (y + 1)
def mgN (I : AI) (F : Nat → Nat → Bool) (ls : List Ln) : AI := upI (if I 100 44 = 0 then I else ctF F ls I 8 0) 100 5 (I 100 5 + 1)
def mnN (F : Nat → Nat → Bool) (ls : List Ln) : AI → Nat → AI
  | I, 0 => I
  | I, n + 1 => mnN F ls (mgN I F ls) n
def MM (I : AI) (ls : List Ln) : Prop := MBase I ∧ MLand I ∧ MWar I ∧ MRul I ls
theorem clM_rg (v : Int32) : rg 61 (clM v) := by
  unfold clM
  split
  · exact ⟨1, by decide, rfl⟩
  · split
    · exact ⟨60, by decide, rfl⟩
    · rename_i h1 h2
      exact inB_rg (n := 60) (by decide) (inB_t.mpr ⟨Int32.le_trans (by decide) (Int32.not_lt.mp h1), Int32.not_lt.mp h2⟩)
theorem cty_or {I : AI} {F : Nat → Nat → Bool} {ls : List Ln} (y : Int32) : ctyN I F ls y = I ∨ ctyN I F ls y = lifN I y ∨ ∃ m, rg 61 m ∧ ctyN I F ls y = begN I y m := by
  unfold ctyN
  split
  · exact Or.inl rfl
  · split
    · exact Or.inl rfl
    · split
      · exact Or.inl rfl
      · split
        · exact Or.inr (Or.inl rfl)
        · exact Or.inr (Or.inr ⟨_, clM_rg _, rfl⟩)
theorem cty_fr {I : AI} {F : Nat → Nat → Bool} {ls : List Ln} (y : Int32) {a k : Nat} (h : warC a = false) (h1 : a = 100 → ¬ k = 45) : ctyN I F ls y a k = I a k := by
  rcases cty_or (I := I) (F := F) (ls := ls) y with e | e | ⟨m, -, e⟩ <;> rw [e]
  · exact lif_fr y h
  · exact beg_fr y _ h h1
theorem cty_war {I : AI} {F : Nat → Nat → Bool} {ls : List Ln} (hI : MWar I) (y : Int32) (hy : ctyB y = true) : MWar (ctyN I F ls y) := by
  rcases cty_or (I := I) (F := F) (ls := ls) y with e | e | ⟨m, hm, e⟩ <;> rw [e]
  · exact hI
  · exact MWar_lif hI y
  · exact MWar_beg hI y _ hy hm
theorem MM_k {I I' : AI} {ls : List Ln} (hM : MM I ls) (hf : ∀ a k, warC a = false → (a = 100 → ¬ k = 45 ∧ ¬ k = 5) → I' a k = I a k) (hW : MWar I') : MM I' ls := by
  have hc : ∀ a, warC a = false → ¬ a = 100 → I' a = I a := fun a h1 h2 => funext fun k => hf a k h1 (fun q => absurd q h2)
  have hs : ∀ k, ¬ k = 45 → ¬ k = 5 → I' 100 k = I 100 k := fun k h1 h2 => hf 100 k rfl (fun _ => ⟨h1, h2⟩)
  obtain ⟨⟨b1, b2, b3, b4, b5⟩, hL, -, hR⟩ := hM
  refine ⟨⟨?_, ?_, ?_, ?_, hW.2.1⟩, ?_, hW, ?_⟩
  · rw [hs 0 (by decide) (by decide)]; exact b1
  · unfold MRad; rw [hc 105 rfl (by decide), hc 106 rfl (by decide), hc 107 rfl (by decide), hc 108 rfl (by decide), hc 109 rfl (by decide)]; exact b2
  · unfold MTel; rw [hs 13 (by decide) (by decide), hc 110 rfl (by decide), hc 111 rfl (by decide), hc 112 rfl (by decide), hc 113 rfl (by decide), hc 114 rfl (by decide), hc 115 rfl (by decide)]; exact b3
  · rw [hs 7 (by decide) (by decide)]; exact b4
  · unfold MLand; rw [hc 101 rfl (by decide), hc 102 rfl (by decide), hc 103 rfl (by decide), hc 104 rfl (by decide)]; exact hL
  · exact MRul_k (hs 29 (by decide) (by decide)) (hc 120 rfl (by decide)) (hc 121 rfl (by decide)) (hc 122 rfl (by decide)) (hc 123 rfl (by decide)) (hc 124 rfl (by decide)) (hc 125 rfl (by decide)) hR
theorem MM_cty {I : AI} {F : Nat → Nat → Bool} {ls : List Ln} (hM : MM I ls) (y : Int32) (hy : ctyB y = true) : MM (ctyN I F ls y) ls :=
  MM_k hM (fun a k h1 h2 => cty_fr y h1 (fun q => (h2 q).1)) (cty_war hM.2.2.1 y hy)
theorem ctyB_nI {y : Nat} (h : y < 8) : ctyB (nI y) = true := by
  rcases (show y = 0 ∨ y = 1 ∨ y = 2 ∨ y = 3 ∨ y = 4 ∨ y = 5 ∨ y = 6 ∨ y = 7 by omega) with rfl | rfl | rfl | rfl | rfl | rfl | rfl | rfl <;> decide
theorem ctF_fr {F : Nat → Nat → Bool} {ls : List Ln} {a k : Nat} (h : warC a = false) (h1 : a = 100 → ¬ k = 45) : ∀ (j y : Nat) (I : AI), ctF F ls I j y a k = I a k
  | 0, _, _ => rfl
  | j + 1, y, I => by unfold ctF; rw [ctF_fr h h1 j (y + 1), cty_fr _ h h1]
theorem MM_ctF {F : Nat → Nat → Bool} {ls : List Ln} : ∀ (j y : Nat) (I : AI), y + j ≤ 8 → MM I ls → MM (ctF F ls I j y) ls
  | 0, _, _, _, h => h
  | j + 1, y, I, hj, h => MM_ctF j (y + 1) _ (by omega) (MM_cty h (nI y) (ctyB_nI (by omega)))
theorem MM_now {I : AI} {ls : List Ln} {t : Nat} (hM : MM I ls) (ht : t < 720) : MM (upI I 100 5 (nI t)) ls := by
  refine MM_k hM (fun a k h1 h2 => ?_) ?_
  · unfold upI
    by_cases q : a = 100
    · rw [if_pos q, if_neg (h2 q).2]
    · rw [if_neg q]
  · obtain ⟨h1, h2, h3, h4⟩ := hM.2.2.1
    exact ⟨h1, ⟨t, ht, rfl⟩, h3, h4⟩
theorem MM_mg {I : AI} {F : Nat → Nat → Bool} {ls : List Ln} {t : Nat} (hM : MM I ls) (et : I 100 5 = nI t) (ht : t + 1 < 720) : MM (mgN I F ls) ls := by
  unfold mgN
  rw [et, ← nI_succ]
  refine MM_now ?_ ht
  split
  · exact hM
  · exact MM_ctF 8 0 I (by omega) hM
theorem mg_now {I : AI} {F : Nat → Nat → Bool} {ls : List Ln} : mgN I F ls 100 5 = I 100 5 + 1 := by
  unfold mgN upI; rw [if_pos rfl, if_pos rfl]
theorem mg_on {I : AI} {F : Nat → Nat → Bool} {ls : List Ln} : mgN I F ls 100 44 = I 100 44 := by
  show (if I 100 44 = 0 then I else ctF F ls I 8 0) 100 44 = _
  split
  · rfl
  · exact ctF_fr rfl (fun _ => by decide) 8 0 I
theorem c_lineOfY (γ : GE) {b c : Bool} {I g : AI} {J : AJ} (ls : List Ln) (hR : MRul I ls) {h : Nat → Int32} (hh : ∀ q, q < 9 → g 134 q = h q) {o : Option Nat} (hl : lnN h ls 0 = o) : Ct γ mX12_lineOf 2 0 0 [.ref 100] (SS b c) (mX I g) J (fun r S' I' J' => some (.int (bsI o)) = r ∧ (SS b c) = S' ∧ (∃ G, I' = mX I G ∧ ∀ a, a ≠ 135 → G a = g a) ∧ J = J') := by
  have q := c_lineOfX γ (b := b) (c := c) (J := J) ls hR hh
  rw [hl] at q
  exact q
theorem bsI_n1 {o : Option Nat} : bsI o = -1 → ∀ k, k < 2 ^ 31 → o = some k → False := by
  intro h k hk e; subst e; exact nI_m1 hk h
theorem lp_mg (γ : GE) {b c : Bool} {J : AJ} {Post : PT} (F : Nat → Nat → Bool) (ls : List Ln) (g6 : Nat → Int32) (fin : AI) (K : ∀ g : AI, g 116 = g6 → Rj γ mX12_minuteGoes 3 0 0 Post (116, [some (.ref 100), none, none, none], [], (SS b c), (mX fin g), J, 0, 0)) : ∀ (j y : Nat) (I g : AI), y + j = 8 → MM I ls → (∀ k, k < 8 → g 136 k = nI (nrN I (F (nv (I 100 5))) k 96) ∧ g 137 k = sooN I (F (nv (I 100 5))) k 13) → g 116 = g6 → ctF F ls I j y = fin → Rj γ mX12_minuteGoes 3 0 0 Post (13, [some (.ref 100), some (.int (nI y)), none, none], [], (SS b c), (mX I g), J, 0, 0) := by
  intro j
  induction j with
  | zero =>
    intro y I g hj hM hN hg hf
    refine r_run okX12_minuteGoes 2 (cs := []) (σ' := (16, [some (.ref 100), some (.int (nI y)), none, none], [.int 8, .int (nI y)], (SS b c), (mX I g), J, 0, 0)) rfl trivial ?_
    refine r_icmp okX12_minuteGoes rfl (fun (h16 : (8 : Int32) ≤ (nI y)) => ?_) (fun (h16 : ¬ (8 : Int32) ≤ (nI y)) => ?_)
    · refine r_weak (L' := [some (.ref 100), none, none, none]) ⟨rfl, trivial⟩ ?_
      have e : I = fin := hf
      subst e
      exact K g hg
    · exact absurd (nI_le (a := 8) (by omega) (by omega)) h16
  | succ j ih =>
    intro y I g hj hM hN hg hf
    have hy : ctyB (nI y) = true := ctyB_nI (by omega)
    refine r_run okX12_minuteGoes 2 (cs := []) (σ' := (16, [some (.ref 100), some (.int (nI y)), none, none], [.int 8, .int (nI y)], (SS b c), (mX I g), J, 0, 0)) rfl trivial ?_
    refine r_icmp okX12_minuteGoes rfl (fun (h16 : (8 : Int32) ≤ (nI y)) => ?_) (fun (h16 : ¬ (8 : Int32) ≤ (nI y)) => ?_)
    · exact absurd h16 (nI_ge (b := 8) (by omega) (by decide))
    · refine r_run okX12_minuteGoes 2 (cs := []) (σ' := (21, [some (.ref 100), some (.int (nI y)), none, none], [.int (nI y), .ref 100], (SS b c), (mX I g), J, 0, 0)) rfl trivial ?_
      refine r_callV okX12_minuteGoes okX12_takes [.int (nI y)] [] 100 rfl rfl rfl kkX12_takes rfl rfl (by decide) rfl rfl rfl (by decide) ⟨Nat.le_refl _, Nat.le_refl _⟩ (Nat.le_of_ble_eq_true rfl) (c_takesX γ (I := I) (g := g) F hM.1.2.2.1 hM.2.2.1.1 hy hN) (fun v1 S1 I1 J1 hp => ?_)
      obtain ⟨rfl, rfl, ⟨g3, rfl, g31, g36, g37, hg3⟩, rfl⟩ := hp
      show Rj _ _ _ _ _ _ (24, [some (.ref 100), some (.int (nI y)), none, none], [], (SS b c), (mX I g3), J, 0, 0)
      cases hl : lnN (ansV I F (nI y)) ls 0 with
      | none =>
        refine r_run okX12_minuteGoes 1 (cs := []) (σ' := (25, [some (.ref 100), some (.int (nI y)), none, none], [.ref 100], (SS b c), (mX I g3), J, 0, 0)) rfl trivial ?_
        refine r_callV okX12_minuteGoes okX12_lineOf [] [] 100 rfl rfl rfl kkX12_lineOf rfl rfl (by decide) rfl rfl rfl (by decide) ⟨Nat.le_refl _, Nat.le_refl _⟩ (Nat.le_of_ble_eq_true rfl) (c_lineOfY γ (I := I) (g := g3) ls hM.2.2.2 hg3 hl) (fun v1 S1 I1 J1 hp => ?_)
        obtain ⟨rfl, rfl, ⟨g4, rfl, h4⟩, rfl⟩ := hp
        show Rj _ _ _ _ _ _ (28, [some (.ref 100), some (.int (nI y)), none, none], [.int (bsI none)], (SS b c), (mX I g4), J, 0, 0)
        refine r_run okX12_minuteGoes 3 (cs := []) (σ' := (31, [some (.ref 100), some (.int (nI y)), some (.int (bsI none)), none], [.int (-1), .int (bsI none)], (SS b c), (mX I g4), J, 0, 0)) rfl trivial ?_
        refine r_icmp okX12_minuteGoes rfl (fun (h31 : (bsI none) = ((-1) : Int32)) => ?_) (fun (h31 : ¬ (bsI none) = ((-1) : Int32)) => ?_)
        · refine r_run okX12_minuteGoes 2 (cs := []) (σ' := (13, [some (.ref 100), some (.int ((nI y) + 1)), some (.int (bsI none)), none], [], (SS b c), (mX I g4), J, 0, 0)) rfl trivial ?_
          have ecy : ctyN I F ls (nI y) = I := by unfold ctyN; rw [hl]
          have g46 : g4 136 = g 136 := (h4 136 (by decide)).trans g36
          have g47 : g4 137 = g 137 := (h4 137 (by decide)).trans g37
          have g41 : g4 116 = g6 := (h4 116 (by decide)).trans (g31.trans hg)
          rw [← nI_succ]
          refine r_weak (L' := [some (.ref 100), some (.int (nI (y + 1))), none, none]) ⟨rfl, rfl, trivial⟩ ?_
          refine ih (y + 1) I g4 (by omega) ?_ ?_ ?_ ?_
          · have h := MM_cty (F := F) hM (nI y) hy; rw [ecy] at h; exact h
          · intro k hk; have h := hN k hk; rw [← ecy]; have e5 : ctyN I F ls (nI y) 100 5 = I 100 5 := cty_fr _ rfl (fun _ => by decide)
            rw [e5, show nrN (ctyN I F ls (nI y)) (F (nv (I 100 5))) k 96 = nrN I (F (nv (I 100 5))) k 96 by unfold nrN cyB; rw [show ctyN I F ls (nI y) 101 = I 101 from funext fun _ => cty_fr _ rfl (fun q => absurd q (by decide))], sooN_e (show ctyN I F ls (nI y) 101 = I 101 from funext fun _ => cty_fr _ rfl (fun q => absurd q (by decide))) (cty_fr _ rfl (fun _ => by decide))]
            exact ⟨(congrFun (g46) k).trans h.1, (congrFun (g47) k).trans h.2⟩
          · exact g41
          · rw [← hf, ctF, ecy]
        · exact absurd rfl h31
      | some k =>
        have hk := lnN_lt hl
        have h16 := hM.2.2.2.1
        have hkl : k < ls.length := by omega
        obtain ⟨q, hq⟩ : ∃ q, ls[k]? = some q := ⟨_, List.getElem?_eq_getElem hkl⟩
        obtain ⟨⟨f, w0, e, a1, a2, a3, a4, a5, a6, a7, a8, a9⟩, hok⟩ := hM.2.2.2.2.2 k q hq
        have ck : (nI k).toNatClampNeg = k := nI_clamp (by omega)
        have e120 : I 120 k = q.1 := a4
        refine r_run okX12_minuteGoes 1 (cs := []) (σ' := (25, [some (.ref 100), some (.int (nI y)), none, none], [.ref 100], (SS b c), (mX I g3), J, 0, 0)) rfl trivial ?_
        refine r_callV okX12_minuteGoes okX12_lineOf [] [] 100 rfl rfl rfl kkX12_lineOf rfl rfl (by decide) rfl rfl rfl (by decide) ⟨Nat.le_refl _, Nat.le_refl _⟩ (Nat.le_of_ble_eq_true rfl) (c_lineOfY γ (I := I) (g := g3) ls hM.2.2.2 hg3 hl) (fun v1 S1 I1 J1 hp => ?_)
        obtain ⟨rfl, rfl, ⟨g4, rfl, h4⟩, rfl⟩ := hp
        have hg4 : ∀ q, q < 9 → g4 134 q = ansV I F (nI y) q := fun q hq => by rw [h4 134 (by decide)]; exact hg3 q hq
        show Rj _ _ _ _ _ _ (28, [some (.ref 100), some (.int (nI y)), none, none], [.int (nI k)], (SS b c), (mX I g4), J, 0, 0)
        refine r_run okX12_minuteGoes 3 (cs := []) (σ' := (31, [some (.ref 100), some (.int (nI y)), some (.int (nI k)), none], [.int (-1), .int (nI k)], (SS b c), (mX I g4), J, 0, 0)) rfl trivial ?_
        refine r_icmp okX12_minuteGoes rfl (fun (h31 : (nI k) = ((-1) : Int32)) => ?_) (fun (h31 : ¬ (nI k) = ((-1) : Int32)) => ?_)
        · exact absurd h31 (nI_m1 (by omega))
        · refine r_run okX12_minuteGoes 5 (cs := [vp_in (nI k) 32]) (σ' := (41, [some (.ref 100), some (.int (nI y)), some (.int (nI k)), none], [.int 2, .int ((mX I g4) 120 ((nI k).toNatClampNeg))], (SS b c), (mX I g4), J, 0, 0)) rfl ⟨(vin (by omega) (by decide)), trivial⟩ ?_
          simp only [ck]
          show Rj _ _ _ _ _ _ (41, [some (.ref 100), some (.int (nI y)), some (.int (nI k)), none], [.int 2, .int ((mX I g4) 120 k)], (SS b c), (mX I g4), J, 0, 0)
          refine r_icmp okX12_minuteGoes rfl (fun (h41 : ¬ ((mX I g4) 120 k) = (2 : Int32)) => ?_) (fun h410 => ?_)
          · have q2 : ¬ q.1 = 2 := fun z => h41 (e120.trans z)
            refine r_run okX12_minuteGoes 5 (cs := [vp_in (nI k) 32]) (σ' := (54, [some (.ref 100), some (.int (nI y)), some (.int (nI k)), none], [.int 1, .int ((mX I g4) 120 ((nI k).toNatClampNeg))], (SS b c), (mX I g4), J, 0, 0)) rfl ⟨(vin (by omega) (by decide)), trivial⟩ ?_
            simp only [ck]
            show Rj _ _ _ _ _ _ (54, [some (.ref 100), some (.int (nI y)), some (.int (nI k)), none], [.int 1, .int ((mX I g4) 120 k)], (SS b c), (mX I g4), J, 0, 0)
            refine r_icmp okX12_minuteGoes rfl (fun (h54 : ¬ ((mX I g4) 120 k) = (1 : Int32)) => ?_) (fun h540 => ?_)
            · have q1 : ¬ q.1 = 1 := fun z => h54 (e120.trans z)
              have h0 : q.1 = 0 := by obtain ⟨z, hz, ez⟩ := hok.1; rw [ez] at q1 q2 ⊢; rcases (show z = 0 ∨ z = 1 ∨ z = 2 by omega) with rfl | rfl | rfl; (· rfl); (· exact absurd rfl q1); exact absurd rfl q2
              refine r_run okX12_minuteGoes 9 (cs := [vp_in (nI k) 32, vp_in (nI k) 32]) (σ' := (79, [some (.ref 100), some (.int (nI y)), some (.int (nI k)), none], [.int ((mX I g4) 122 ((nI k).toNatClampNeg)), .int ((mX I g4) 121 ((nI k).toNatClampNeg)), .ref 100], (SS b c), (mX I g4), J, 0, 0)) rfl ⟨(vin (by omega) (by decide)), (vin (by omega) (by decide)), trivial⟩ ?_
              simp only [ck]
              show Rj _ _ _ _ _ _ (79, [some (.ref 100), some (.int (nI y)), some (.int (nI k)), none], [.int ((mX I g4) 122 k), .int ((mX I g4) 121 k), .ref 100], (SS b c), (mX I g4), J, 0, 0)
              refine r_callV okX12_minuteGoes okX12_valueOf [.int ((mX I g4) 121 k), .int ((mX I g4) 122 k)] [] 100 rfl rfl rfl kkX12_valueOf rfl rfl (by decide) rfl rfl rfl (by decide) ⟨Nat.le_refl _, Nat.le_refl _⟩ (Nat.le_of_ble_eq_true rfl) (c_valueOfX γ (I := I) (g := g4) ls hM.2.2.2 hg4 hq h0) (fun v1 S1 I1 J1 hp => ?_)
              obtain ⟨rfl, rfl, ⟨g5, rfl, h5⟩, rfl⟩ := hp
              show Rj _ _ _ _ _ _ (82, [some (.ref 100), some (.int (nI y)), some (.int (nI k)), none], [.int (valC (ansV I F (nI y)) q.2.1)], (SS b c), (mX I g5), J, 0, 0)
              refine r_run okX12_minuteGoes 5 (cs := []) (σ' := (87, [some (.ref 100), some (.int (nI y)), some (.int (nI k)), some (.int (valC (ansV I F (nI y)) q.2.1))], [.int 1, .int (valC (ansV I F (nI y)) q.2.1), .int (nI y), .ref 100], (SS b c), (mX I g5), J, 0, 0)) rfl trivial ?_
              refine r_icmp okX12_minuteGoes rfl (fun (h87 : (1 : Int32) ≤ (valC (ansV I F (nI y)) q.2.1)) => ?_) (fun (h87 : ¬ (1 : Int32) ≤ (valC (ansV I F (nI y)) q.2.1)) => ?_)
              · refine r_run okX12_minuteGoes 2 (cs := []) (σ' := (97, [some (.ref 100), some (.int (nI y)), some (.int (nI k)), some (.int (valC (ansV I F (nI y)) q.2.1))], [.int 60, .int (valC (ansV I F (nI y)) q.2.1), .int (nI y), .ref 100], (SS b c), (mX I g5), J, 0, 0)) rfl trivial ?_
                refine r_icmp okX12_minuteGoes rfl (fun (h97 : (valC (ansV I F (nI y)) q.2.1) ≤ (60 : Int32)) => ?_) (fun (h97 : ¬ (valC (ansV I F (nI y)) q.2.1) ≤ (60 : Int32)) => ?_)
                · refine r_run okX12_minuteGoes 1 (cs := []) (σ' := (106, [some (.ref 100), some (.int (nI y)), some (.int (nI k)), some (.int (valC (ansV I F (nI y)) q.2.1))], [.int (valC (ansV I F (nI y)) q.2.1), .int (nI y), .ref 100], (SS b c), (mX I g5), J, 0, 0)) rfl trivial ?_
                  refine r_callV okX12_minuteGoes okX12_begin [.int (nI y), .int (valC (ansV I F (nI y)) q.2.1)] [] 100 rfl rfl rfl kkX12_begin rfl rfl (by decide) rfl rfl rfl (by decide) ⟨Nat.le_refl _, Nat.le_refl _⟩ (Nat.le_of_ble_eq_true rfl) (c_beginX γ (I := I) (g := g5) hM.2.2.1 hM.2.1 (nI y) (valC (ansV I F (nI y)) q.2.1) hy) (fun v1 S1 I1 J1 hp => ?_)
                  obtain ⟨rfl, rfl, rfl, rfl⟩ := hp
                  show Rj _ _ _ _ _ _ (109, [some (.ref 100), some (.int (nI y)), some (.int (nI k)), some (.int (valC (ansV I F (nI y)) q.2.1))], [.int (begV (mX I g5) (nI y))], (SS b c), (mX (begN I (nI y) (valC (ansV I F (nI y)) q.2.1)) g5), J, 0, 0)
                  refine r_run okX12_minuteGoes 3 (cs := []) (σ' := (13, [some (.ref 100), some (.int ((nI y) + 1)), some (.int (nI k)), some (.int (valC (ansV I F (nI y)) q.2.1))], [], (SS b c), (mX (begN I (nI y) (valC (ansV I F (nI y)) q.2.1)) g5), J, 0, 0)) rfl trivial ?_
                  have ecy : ctyN I F ls (nI y) = (begN I (nI y) (valC (ansV I F (nI y)) q.2.1)) := by unfold ctyN; rw [hl]; simp only [hq]; rw [if_neg q2, if_neg q1, clM, if_neg (Int32.not_lt.mpr h87), if_neg (Int32.not_lt.mpr h97)]
                  have g56 : g5 136 = g 136 := (h5 136 (by decide)).trans ((h4 136 (by decide)).trans g36)
                  have g57 : g5 137 = g 137 := (h5 137 (by decide)).trans ((h4 137 (by decide)).trans g37)
                  have g51 : g5 116 = g6 := (h5 116 (by decide)).trans ((h4 116 (by decide)).trans (g31.trans hg))
                  rw [← nI_succ]
                  refine r_weak (L' := [some (.ref 100), some (.int (nI (y + 1))), none, none]) ⟨rfl, rfl, trivial⟩ ?_
                  refine ih (y + 1) (begN I (nI y) (valC (ansV I F (nI y)) q.2.1)) g5 (by omega) ?_ ?_ ?_ ?_
                  · have h := MM_cty (F := F) hM (nI y) hy; rw [ecy] at h; exact h
                  · intro k hk; have h := hN k hk; rw [← ecy]; have e5 : ctyN I F ls (nI y) 100 5 = I 100 5 := cty_fr _ rfl (fun _ => by decide)
                    rw [e5, show nrN (ctyN I F ls (nI y)) (F (nv (I 100 5))) k 96 = nrN I (F (nv (I 100 5))) k 96 by unfold nrN cyB; rw [show ctyN I F ls (nI y) 101 = I 101 from funext fun _ => cty_fr _ rfl (fun q => absurd q (by decide))], sooN_e (show ctyN I F ls (nI y) 101 = I 101 from funext fun _ => cty_fr _ rfl (fun q => absurd q (by decide))) (cty_fr _ rfl (fun _ => by decide))]
                    exact ⟨(congrFun (g56) k).trans h.1, (congrFun (g57) k).trans h.2⟩
                  · exact g51
                  · rw [← hf, ctF, ecy]
                · refine r_run okX12_minuteGoes 2 (cs := []) (σ' := (106, [some (.ref 100), some (.int (nI y)), some (.int (nI k)), some (.int (valC (ansV I F (nI y)) q.2.1))], [.int 60, .int (nI y), .ref 100], (SS b c), (mX I g5), J, 0, 0)) rfl trivial ?_
                  refine r_callV okX12_minuteGoes okX12_begin [.int (nI y), .int 60] [] 100 rfl rfl rfl kkX12_begin rfl rfl (by decide) rfl rfl rfl (by decide) ⟨Nat.le_refl _, Nat.le_refl _⟩ (Nat.le_of_ble_eq_true rfl) (c_beginX γ (I := I) (g := g5) hM.2.2.1 hM.2.1 (nI y) 60 hy) (fun v1 S1 I1 J1 hp => ?_)
                  obtain ⟨rfl, rfl, rfl, rfl⟩ := hp
                  show Rj _ _ _ _ _ _ (109, [some (.ref 100), some (.int (nI y)), some (.int (nI k)), some (.int (valC (ansV I F (nI y)) q.2.1))], [.int (begV (mX I g5) (nI y))], (SS b c), (mX (begN I (nI y) 60) g5), J, 0, 0)
                  refine r_run okX12_minuteGoes 3 (cs := []) (σ' := (13, [some (.ref 100), some (.int ((nI y) + 1)), some (.int (nI k)), some (.int (valC (ansV I F (nI y)) q.2.1))], [], (SS b c), (mX (begN I (nI y) 60) g5), J, 0, 0)) rfl trivial ?_
                  have ecy : ctyN I F ls (nI y) = (begN I (nI y) 60) := by unfold ctyN; rw [hl]; simp only [hq]; rw [if_neg q2, if_neg q1, clM, if_neg (Int32.not_lt.mpr h87), if_pos (Int32.not_le.mp h97)]
                  have g56 : g5 136 = g 136 := (h5 136 (by decide)).trans ((h4 136 (by decide)).trans g36)
                  have g57 : g5 137 = g 137 := (h5 137 (by decide)).trans ((h4 137 (by decide)).trans g37)
                  have g51 : g5 116 = g6 := (h5 116 (by decide)).trans ((h4 116 (by decide)).trans (g31.trans hg))
                  rw [← nI_succ]
                  refine r_weak (L' := [some (.ref 100), some (.int (nI (y + 1))), none, none]) ⟨rfl, rfl, trivial⟩ ?_
                  refine ih (y + 1) (begN I (nI y) 60) g5 (by omega) ?_ ?_ ?_ ?_
                  · have h := MM_cty (F := F) hM (nI y) hy; rw [ecy] at h; exact h
                  · intro k hk; have h := hN k hk; rw [← ecy]; have e5 : ctyN I F ls (nI y) 100 5 = I 100 5 := cty_fr _ rfl (fun _ => by decide)
                    rw [e5, show nrN (ctyN I F ls (nI y)) (F (nv (I 100 5))) k 96 = nrN I (F (nv (I 100 5))) k 96 by unfold nrN cyB; rw [show ctyN I F ls (nI y) 101 = I 101 from funext fun _ => cty_fr _ rfl (fun q => absurd q (by decide))], sooN_e (show ctyN I F ls (nI y) 101 = I 101 from funext fun _ => cty_fr _ rfl (fun q => absurd q (by decide))) (cty_fr _ rfl (fun _ => by decide))]
                    exact ⟨(congrFun (g56) k).trans h.1, (congrFun (g57) k).trans h.2⟩
                  · exact g51
                  · rw [← hf, ctF, ecy]
              · refine r_run okX12_minuteGoes 2 (cs := []) (σ' := (106, [some (.ref 100), some (.int (nI y)), some (.int (nI k)), some (.int (valC (ansV I F (nI y)) q.2.1))], [.int 1, .int (nI y), .ref 100], (SS b c), (mX I g5), J, 0, 0)) rfl trivial ?_
                refine r_callV okX12_minuteGoes okX12_begin [.int (nI y), .int 1] [] 100 rfl rfl rfl kkX12_begin rfl rfl (by decide) rfl rfl rfl (by decide) ⟨Nat.le_refl _, Nat.le_refl _⟩ (Nat.le_of_ble_eq_true rfl) (c_beginX γ (I := I) (g := g5) hM.2.2.1 hM.2.1 (nI y) 1 hy) (fun v1 S1 I1 J1 hp => ?_)
                obtain ⟨rfl, rfl, rfl, rfl⟩ := hp
                show Rj _ _ _ _ _ _ (109, [some (.ref 100), some (.int (nI y)), some (.int (nI k)), some (.int (valC (ansV I F (nI y)) q.2.1))], [.int (begV (mX I g5) (nI y))], (SS b c), (mX (begN I (nI y) 1) g5), J, 0, 0)
                refine r_run okX12_minuteGoes 3 (cs := []) (σ' := (13, [some (.ref 100), some (.int ((nI y) + 1)), some (.int (nI k)), some (.int (valC (ansV I F (nI y)) q.2.1))], [], (SS b c), (mX (begN I (nI y) 1) g5), J, 0, 0)) rfl trivial ?_
                have ecy : ctyN I F ls (nI y) = (begN I (nI y) 1) := by unfold ctyN; rw [hl]; simp only [hq]; rw [if_neg q2, if_neg q1, clM, if_pos (Int32.not_le.mp h87)]
                have g56 : g5 136 = g 136 := (h5 136 (by decide)).trans ((h4 136 (by decide)).trans g36)
                have g57 : g5 137 = g 137 := (h5 137 (by decide)).trans ((h4 137 (by decide)).trans g37)
                have g51 : g5 116 = g6 := (h5 116 (by decide)).trans ((h4 116 (by decide)).trans (g31.trans hg))
                rw [← nI_succ]
                refine r_weak (L' := [some (.ref 100), some (.int (nI (y + 1))), none, none]) ⟨rfl, rfl, trivial⟩ ?_
                refine ih (y + 1) (begN I (nI y) 1) g5 (by omega) ?_ ?_ ?_ ?_
                · have h := MM_cty (F := F) hM (nI y) hy; rw [ecy] at h; exact h
                · intro k hk; have h := hN k hk; rw [← ecy]; have e5 : ctyN I F ls (nI y) 100 5 = I 100 5 := cty_fr _ rfl (fun _ => by decide)
                  rw [e5, show nrN (ctyN I F ls (nI y)) (F (nv (I 100 5))) k 96 = nrN I (F (nv (I 100 5))) k 96 by unfold nrN cyB; rw [show ctyN I F ls (nI y) 101 = I 101 from funext fun _ => cty_fr _ rfl (fun q => absurd q (by decide))], sooN_e (show ctyN I F ls (nI y) 101 = I 101 from funext fun _ => cty_fr _ rfl (fun q => absurd q (by decide))) (cty_fr _ rfl (fun _ => by decide))]
                  exact ⟨(congrFun (g56) k).trans h.1, (congrFun (g57) k).trans h.2⟩
                · exact g51
                · rw [← hf, ctF, ecy]
            · have h54 : ((mX I g4) 120 k) = (1 : Int32) := Classical.not_not.mp h540
              have q1 : q.1 = 1 := e120.symm.trans h54
              refine r_run okX12_minuteGoes 2 (cs := []) (σ' := (59, [some (.ref 100), some (.int (nI y)), some (.int (nI k)), none], [.int (nI y), .ref 100], (SS b c), (mX I g4), J, 0, 0)) rfl trivial ?_
              refine r_callV okX12_minuteGoes okX12_lifts [.int (nI y)] [] 100 rfl rfl rfl kkX12_lifts rfl rfl (by decide) rfl rfl rfl (by decide) ⟨Nat.le_refl _, Nat.le_refl _⟩ (Nat.le_of_ble_eq_true rfl) (c_liftsX γ (I := I) (g := g4) hM.2.2.1.1 (nI y)) (fun v1 S1 I1 J1 hp => ?_)
              obtain ⟨rfl, rfl, rfl, rfl⟩ := hp
              show Rj _ _ _ _ _ _ (62, [some (.ref 100), some (.int (nI y)), some (.int (nI k)), none], [.int (bi (lifB (mX I g4) (nI y)))], (SS b c), (mX (lifN I (nI y)) g4), J, 0, 0)
              refine r_run okX12_minuteGoes 4 (cs := []) (σ' := (13, [some (.ref 100), some (.int ((nI y) + 1)), some (.int (nI k)), none], [], (SS b c), (mX (lifN I (nI y)) g4), J, 0, 0)) rfl trivial ?_
              have ecy : ctyN I F ls (nI y) = (lifN I (nI y)) := by unfold ctyN; rw [hl]; simp only [hq]; rw [if_neg q2, if_pos q1]
              have g46 : g4 136 = g 136 := (h4 136 (by decide)).trans g36
              have g47 : g4 137 = g 137 := (h4 137 (by decide)).trans g37
              have g41 : g4 116 = g6 := (h4 116 (by decide)).trans (g31.trans hg)
              rw [← nI_succ]
              refine r_weak (L' := [some (.ref 100), some (.int (nI (y + 1))), none, none]) ⟨rfl, rfl, trivial⟩ ?_
              refine ih (y + 1) (lifN I (nI y)) g4 (by omega) ?_ ?_ ?_ ?_
              · have h := MM_cty (F := F) hM (nI y) hy; rw [ecy] at h; exact h
              · intro k hk; have h := hN k hk; rw [← ecy]; have e5 : ctyN I F ls (nI y) 100 5 = I 100 5 := cty_fr _ rfl (fun _ => by decide)
                rw [e5, show nrN (ctyN I F ls (nI y)) (F (nv (I 100 5))) k 96 = nrN I (F (nv (I 100 5))) k 96 by unfold nrN cyB; rw [show ctyN I F ls (nI y) 101 = I 101 from funext fun _ => cty_fr _ rfl (fun q => absurd q (by decide))], sooN_e (show ctyN I F ls (nI y) 101 = I 101 from funext fun _ => cty_fr _ rfl (fun q => absurd q (by decide))) (cty_fr _ rfl (fun _ => by decide))]
                exact ⟨(congrFun (g46) k).trans h.1, (congrFun (g47) k).trans h.2⟩
              · exact g41
              · rw [← hf, ctF, ecy]
          · have h41 : ((mX I g4) 120 k) = (2 : Int32) := Classical.not_not.mp h410
            have q2 : q.1 = 2 := e120.symm.trans h41
            refine r_run okX12_minuteGoes 3 (cs := []) (σ' := (13, [some (.ref 100), some (.int ((nI y) + 1)), some (.int (nI k)), none], [], (SS b c), (mX I g4), J, 0, 0)) rfl trivial ?_
            have ecy : ctyN I F ls (nI y) = I := by unfold ctyN; rw [hl]; simp only [hq]; rw [if_pos q2]
            have g46 : g4 136 = g 136 := (h4 136 (by decide)).trans g36
            have g47 : g4 137 = g 137 := (h4 137 (by decide)).trans g37
            have g41 : g4 116 = g6 := (h4 116 (by decide)).trans (g31.trans hg)
            rw [← nI_succ]
            refine r_weak (L' := [some (.ref 100), some (.int (nI (y + 1))), none, none]) ⟨rfl, rfl, trivial⟩ ?_
            refine ih (y + 1) I g4 (by omega) ?_ ?_ ?_ ?_
            · have h := MM_cty (F := F) hM (nI y) hy; rw [ecy] at h; exact h
            · intro k hk; have h := hN k hk; rw [← ecy]; have e5 : ctyN I F ls (nI y) 100 5 = I 100 5 := cty_fr _ rfl (fun _ => by decide)
              rw [e5, show nrN (ctyN I F ls (nI y)) (F (nv (I 100 5))) k 96 = nrN I (F (nv (I 100 5))) k 96 by unfold nrN cyB; rw [show ctyN I F ls (nI y) 101 = I 101 from funext fun _ => cty_fr _ rfl (fun q => absurd q (by decide))], sooN_e (show ctyN I F ls (nI y) 101 = I 101 from funext fun _ => cty_fr _ rfl (fun q => absurd q (by decide))) (cty_fr _ rfl (fun _ => by decide))]
              exact ⟨(congrFun (g46) k).trans h.1, (congrFun (g47) k).trans h.2⟩
            · exact g41
            · rw [← hf, ctF, ecy]
theorem c_minuteGoes (γ : GE) {b c : Bool} {I g : AI} {J : AJ} (F : Nat → Nat → Bool) (ls : List Ln) (t : Nat) (ht : t < 720) (et : I 100 5 = nI t) (hM : MM I ls) (hrow : ¬ I 100 44 = 0 → ∀ x, x < 96 → g 116 (96 * t + x) = bi (F t x)) : Ct γ mX12_minuteGoes 3 0 0 [.ref 100] (SS b c) (mX I g) J ((fun r S' I' J' => none = r ∧ (SS b c) = S' ∧ (∃ G, I' = mX (mgN I F ls) G ∧ G 116 = g 116) ∧ J = J')) := by
  refine ct_of okX12_minuteGoes (L := [some (.ref 100), none, none, none]) (Nat.le_of_ble_eq_true rfl) rfl ?_
  refine r_run okX12_minuteGoes 2 (cs := []) (σ' := (4, [some (.ref 100), none, none, none], [.int ((mX I g) 100 44)], (SS b c), (mX I g), J, 0, 0)) rfl trivial ?_
  refine r_ifc okX12_minuteGoes rfl (fun (h4 : ((mX I g) 100 44) = (0 : Int32)) => ?_) (fun (h4 : ¬ ((mX I g) 100 44) = (0 : Int32)) => ?_)
  · refine r_run okX12_minuteGoes 6 (cs := []) (σ' := (126, [some (.ref 100), none, none, none], [], (SS b c), (upI (mX I g) 100 5 (((mX I g) 100 5) + 1)), J, 0, 0)) rfl trivial ?_
    refine r_vret okX12_minuteGoes rfl rfl (Nat.le_refl _) (Nat.le_refl _) ?_
    refine ⟨rfl, rfl, ⟨g, ?_, rfl⟩, rfl⟩
    rw [mX_u rfl]; unfold mgN; rw [if_pos (show I 100 44 = 0 from h4)]; rfl
  · refine r_run okX12_minuteGoes 1 (cs := []) (σ' := (8, [some (.ref 100), none, none, none], [.ref 100], (SS b c), (mX I g), J, 0, 0)) rfl trivial ?_
    refine r_callV okX12_minuteGoes okX12_findNear [] [] 100 rfl rfl rfl kkX12_findNear rfl rfl (by decide) rfl rfl rfl (by decide) ⟨Nat.le_refl _, Nat.le_refl _⟩ (Nat.le_of_ble_eq_true rfl) (c_findNearX γ (I := I) (g := g) F t ht et (hrow h4) hM.2.1) (fun v1 S1 I1 J1 hp => ?_)
    obtain ⟨rfl, rfl, ⟨g2, rfl, g21, hg2⟩, rfl⟩ := hp
    show Rj _ _ _ _ _ _ (11, [some (.ref 100), none, none, none], [], (SS b c), (mX I g2), J, 0, 0)
    refine r_run okX12_minuteGoes 2 (cs := []) (σ' := (13, [some (.ref 100), some (.int 0), none, none], [], (SS b c), (mX I g2), J, 0, 0)) rfl trivial ?_
    have h := lp_mg γ (b := b) (c := c) (J := J) (Post := (fun r S' I' J' => none = r ∧ (SS b c) = S' ∧ (∃ G, I' = mX (mgN I F ls) G ∧ G 116 = g 116) ∧ J = J')) F ls (g2 116) (ctF F ls I 8 0) (fun g9 h9 => ?_) 8 0 I g2 (by omega) hM hg2 rfl rfl
    · rw [nI_0] at h
      exact h
    · refine r_run okX12_minuteGoes 6 (cs := []) (σ' := (126, [some (.ref 100), none, none, none], [], (SS b c), (upI (mX (ctF F ls I 8 0) g9) 100 5 (((mX (ctF F ls I 8 0) g9) 100 5) + 1)), J, 0, 0)) rfl trivial ?_
      refine r_vret okX12_minuteGoes rfl rfl (Nat.le_refl _) (Nat.le_refl _) ?_
      refine ⟨rfl, rfl, ⟨g9, ?_, h9.trans g21⟩, rfl⟩
      rw [mX_u rfl]; unfold mgN; rw [if_neg (show ¬ I 100 44 = 0 from h4), show mX (ctF F ls I 8 0) g9 100 5 = ctF F ls I 8 0 100 5 from rfl, show ctF F ls I 8 0 100 5 = I 100 5 from ctF_fr rfl (fun _ => by decide) 8 0 I]
def mnB (I : AI) (n : Int32) : Bool := inB n 1 60 && decide (I 100 5 + n < 720)
def mnV (I : AI) (n : Int32) : Int32 := if mnB I n then I 100 5 + n else -1
def mnR (I : AI) (ls : List Ln) (n : Int32) : AI := if mnB I n then mnN (mayB I (I 100 5)) ls I (nv n) else I
theorem lp_mn (γ : GE) {b c : Bool} {J : AJ} {Post : PT} (F : Nat → Nat → Bool) (ls : List Ln) (g6 : Nat → Int32) (fin : AI) (n : Nat) (hn : n ≤ 60) (K : ∀ g : AI, Rj γ mX12_minutes 4 0 0 Post (70, [some (.ref 100), some (.int (nI n)), none], [], (SS b c), (mX fin g), J, 0, 0)) : ∀ (j y t : Nat) (I g : AI), y + j = n → I 100 5 = nI t → t + j < 720 → MM I ls → (¬ I 100 44 = 0 → ∀ s x, s < t + j → x < 96 → g6 (96 * s + x) = bi (F s x)) → g 116 = g6 → mnN F ls I j = fin → Rj γ mX12_minutes 4 0 0 Post (55, [some (.ref 100), some (.int (nI n)), some (.int (nI y))], [], (SS b c), (mX I g), J, 0, 0) := by
  intro j
  induction j with
  | zero =>
    intro y t I g hj et ht hM hN hg hf
    refine r_run okX12_minutes 2 (cs := []) (σ' := (57, [some (.ref 100), some (.int (nI n)), some (.int (nI y))], [.int (nI n), .int (nI y)], (SS b c), (mX I g), J, 0, 0)) rfl trivial ?_
    refine r_icmp okX12_minutes rfl (fun (h57 : (nI n) ≤ (nI y)) => ?_) (fun (h57 : ¬ (nI n) ≤ (nI y)) => ?_)
    · refine r_weak (L' := [some (.ref 100), some (.int (nI n)), none]) ⟨rfl, rfl, trivial⟩ ?_
      have e : I = fin := hf
      subst e
      exact K g
    · exact absurd (nI_le (by omega) (by omega)) h57
  | succ j ih =>
    intro y t I g hj et ht hM hN hg hf
    refine r_run okX12_minutes 2 (cs := []) (σ' := (57, [some (.ref 100), some (.int (nI n)), some (.int (nI y))], [.int (nI n), .int (nI y)], (SS b c), (mX I g), J, 0, 0)) rfl trivial ?_
    refine r_icmp okX12_minutes rfl (fun (h57 : (nI n) ≤ (nI y)) => ?_) (fun (h57 : ¬ (nI n) ≤ (nI y)) => ?_)
    · exact absurd h57 (nI_ge (by omega) (by omega))
    · refine r_run okX12_minutes 1 (cs := []) (σ' := (61, [some (.ref 100), some (.int (nI n)), some (.int (nI y))], [.ref 100], (SS b c), (mX I g), J, 0, 0)) rfl trivial ?_
      refine r_callV okX12_minutes okX12_minuteGoes [] [] 100 rfl rfl rfl kkX12_minuteGoes rfl rfl (by decide) rfl rfl rfl (by decide) ⟨Nat.le_refl _, Nat.le_refl _⟩ (Nat.le_of_ble_eq_true rfl) (c_minuteGoes γ (I := I) (g := g) F ls t (by omega) et hM (fun h4 x hx => by rw [hg]; exact hN h4 t x (by omega) hx)) (fun v1 S1 I1 J1 hp => ?_)
      obtain ⟨rfl, rfl, ⟨g1, rfl, h1⟩, rfl⟩ := hp
      show Rj _ _ _ _ _ _ (64, [some (.ref 100), some (.int (nI n)), some (.int (nI y))], [], (SS b c), (mX (mgN I F ls) g1), J, 0, 0)
      refine r_run okX12_minutes 2 (cs := []) (σ' := (55, [some (.ref 100), some (.int (nI n)), some (.int ((nI y) + 1))], [], (SS b c), (mX (mgN I F ls) g1), J, 0, 0)) rfl trivial ?_
      rw [← nI_succ]
      refine ih (y + 1) (t + 1) (mgN I F ls) g1 (by omega) ?_ (by omega) (MM_mg hM et (by omega)) ?_ (h1.trans hg) hf
      · rw [mg_now, et, nI_succ]
      · intro h4 s x hs hx; rw [mg_on] at h4; exact hN h4 s x (by omega) hx
theorem mn_now {F : Nat → Nat → Bool} {ls : List Ln} : ∀ (j : Nat) (I : AI), mnN F ls I j 100 5 = I 100 5 + nI j
  | 0, I => by rw [nI_0]; show I 100 5 = _; simp
  | j + 1, I => by unfold mnN; rw [mn_now j, mg_now, Int32.add_assoc, show (1 : Int32) + nI j = nI (j + 1) by rw [nI_succ, Int32.add_comm]]
theorem c_Mminutes1 (γ : GE) {b c : Bool} {I : AI} {J : AJ} (ls : List Ln) (hM : MM I ls) (n : Nat) (h1 : 1 ≤ n) (hn : n ≤ 60) : Ct γ mX12_minutes 4 0 0 [.ref 100, .int (nI n)] (SS b c) I J ((fun r S' I' J' => some (.int (mnV I (nI n))) = r ∧ (SS b c) = S' ∧ (∃ G, I' = mX (mnR I ls (nI n)) G) ∧ J = J')) := by
  obtain ⟨t, ht0, et⟩ := hM.1.2.2.2.2
  have ht := told0 hM.1.1
  refine ct_of okX12_minutes (L := [some (.ref 100), some (.int (nI n)), none]) (Nat.le_of_ble_eq_true rfl) rfl ?_
  refine r_run okX12_minutes 7 (cs := []) (σ' := (10, [some (.ref 100), some (.int (nI n)), none], [.int 60, .int 1, .int (nI n), .ref 100], (SS b c), (upI I 100 0 0), J, 0, 0)) rfl trivial ?_
  simp only [ht]
  show Rj _ _ _ _ _ _ (10, [some (.ref 100), some (.int (nI n)), none], [.int 60, .int 1, .int (nI n), .ref 100], (SS b c), I, J, 0, 0)
  refine r_callV okX12_minutes okX12_isIn [.int (nI n), .int 1, .int 60] [] 100 rfl rfl rfl kkX12_isIn rfl rfl (by decide) rfl rfl rfl (by decide) ⟨Nat.le_refl _, Nat.le_refl _⟩ (Nat.le_of_ble_eq_true rfl) (c_isIn γ (nI n) 1 60) (fun v1 S1 I1 J1 hp => ?_)
  obtain ⟨rfl, rfl, rfl, rfl⟩ := hp
  show Rj _ _ _ _ _ _ (13, [some (.ref 100), some (.int (nI n)), none], [.int (bi (inB (nI n) 1 60))], (SS b c), I, J, 0, 0)
  refine r_ifc okX12_minutes rfl (fun (h13 : (bi (inB (nI n) 1 60)) = (0 : Int32)) => ?_) (fun (h13 : ¬ (bi (inB (nI n) 1 60)) = (0 : Int32)) => ?_)
  · have h13s := bi_0.mp h13
    refine r_run okX12_minutes 1 (cs := []) (σ' := (29, [some (.ref 100), some (.int (nI n)), none], [.int (-1)], (SS b c), I, J, 0, 0)) rfl trivial ?_
    refine r_iret okX12_minutes rfl rfl rfl (Nat.le_refl _) (Nat.le_refl _) ?_
    have hb : mnB I (nI n) = false := by unfold mnB; rw [h13s]; first | rfl | exact decide_eq_false h25
    refine ⟨?_, rfl, ⟨I, ?_⟩, rfl⟩
    · rw [mnV, hb]; rfl
    · have e : mnR I ls (nI n) = I := by rw [mnR, hb]; rfl
      rw [e, mX_self]
  · have h13s := bi_n0.mp h13
    refine r_run okX12_minutes 5 (cs := []) (σ' := (25, [some (.ref 100), some (.int (nI n)), none], [.int 720, .int ((I 100 5) + (nI n))], (SS b c), I, J, 0, 0)) rfl trivial ?_
    refine r_icmp okX12_minutes rfl (fun (h25 : ((I 100 5) + (nI n)) < (720 : Int32)) => ?_) (fun (h25 : ¬ ((I 100 5) + (nI n)) < (720 : Int32)) => ?_)
    · have htn : t + n < 720 := Nat.lt_of_not_le fun z => absurd h25 (by rw [et, nI_ad]; exact Int32.not_lt.mpr (nI_le (a := 720) z (by omega)))
      have eT : I 100 5 + nI n - 1 = nI (t + n - 1) := by rw [et, nI_ad]; exact nI_prd (by omega)
      have hT1 : inB (I 100 5 + nI n - 1) 0 719 = true := by rw [eT]; exact inB_t.mpr ⟨nI_le (a := 0) (by omega) (by omega), nI_le (b := 719) (by omega) (by omega)⟩
      refine r_run okX12_minutes 2 (cs := []) (σ' := (34, [some (.ref 100), some (.int (nI n)), none], [.int (I 100 44)], (SS b c), I, J, 0, 0)) rfl trivial ?_
      refine r_ifc okX12_minutes rfl (fun (h34 : (I 100 44) = (0 : Int32)) => ?_) (fun (h34 : ¬ (I 100 44) = (0 : Int32)) => ?_)
      · refine r_run okX12_minutes 2 (cs := []) (σ' := (55, [some (.ref 100), some (.int (nI n)), some (.int 0)], [], (SS b c), I, J, 0, 0)) rfl trivial ?_
        have hb : mnB I (nI n) = true := by unfold mnB; rw [h13s]; exact decide_eq_true h25
        have h := lp_mn γ (b := b) (c := c) (J := J) (Post := (fun r S' I' J' => some (.int (mnV I (nI n))) = r ∧ (SS b c) = S' ∧ (∃ G, I' = mX (mnR I ls (nI n)) G) ∧ J = J')) (mayB I (I 100 5)) ls (I 116) (mnN (mayB I (I 100 5)) ls I n) n hn (fun g9 => ?_) n 0 t I I (by omega) et htn hM (fun h4 => absurd h34 h4) rfl rfl
        · rw [nI_0, mX_self] at h
          exact h
        · refine r_run okX12_minutes 2 (cs := []) (σ' := (74, [some (.ref 100), some (.int (nI n)), none], [.int ((mX (mnN (mayB I (I 100 5)) ls I n) g9) 100 5)], (SS b c), (mX (mnN (mayB I (I 100 5)) ls I n) g9), J, 0, 0)) rfl trivial ?_
          refine r_iret okX12_minutes rfl rfl rfl (Nat.le_refl _) (Nat.le_refl _) ?_
          refine ⟨?_, rfl, ⟨g9, ?_⟩, rfl⟩
          · show some (Value.int (mnV I (nI n))) = some (Value.int (mnN (mayB I (I 100 5)) ls I n 100 5))
            rw [mn_now, mnV, hb, if_pos rfl]
          · rw [mnR, hb, if_pos rfl, nv_nI (by omega)]
      · refine r_run okX12_minutes 9 (cs := []) (σ' := (50, [some (.ref 100), some (.int (nI n)), none], [.int (I 100 5), .int (((I 100 5) + (nI n)) - 1), .ref 100], (SS b c), I, J, 0, 0)) rfl trivial ?_
        refine r_callV okX12_minutes okX12_findMaybe [.int (((I 100 5) + (nI n)) - 1), .int (I 100 5)] [] 100 rfl rfl rfl kkX12_findMaybe rfl rfl (by decide) rfl rfl rfl (by decide) ⟨Nat.le_refl _, Nat.le_refl _⟩ (Nat.le_of_ble_eq_true rfl) (c_findMaybeX γ (T := I 100 5 + nI n - 1) (I 100 5) hM.1 hT1) (fun v1 S1 I1 J1 hp => ?_)
        obtain ⟨rfl, rfl, ⟨g1, rfl, hg1⟩, rfl⟩ := hp
        show Rj _ _ _ _ _ _ (53, [some (.ref 100), some (.int (nI n)), none], [], (SS b c), (mX I g1), J, 0, 0)
        refine r_run okX12_minutes 2 (cs := []) (σ' := (55, [some (.ref 100), some (.int (nI n)), some (.int 0)], [], (SS b c), (mX I g1), J, 0, 0)) rfl trivial ?_
        have hb : mnB I (nI n) = true := by unfold mnB; rw [h13s]; exact decide_eq_true h25
        have h := lp_mn γ (b := b) (c := c) (J := J) (Post := (fun r S' I' J' => some (.int (mnV I (nI n))) = r ∧ (SS b c) = S' ∧ (∃ G, I' = mX (mnR I ls (nI n)) G) ∧ J = J')) (mayB I (I 100 5)) ls (g1 116) (mnN (mayB I (I 100 5)) ls I n) n hn (fun g9 => ?_) n 0 t I g1 (by omega) et htn hM (fun _ s x hs hx => hg1 s x (by rw [eT, nv_nI (by omega)]; omega) hx) rfl rfl
        · rw [nI_0] at h
          exact h
        · refine r_run okX12_minutes 2 (cs := []) (σ' := (74, [some (.ref 100), some (.int (nI n)), none], [.int ((mX (mnN (mayB I (I 100 5)) ls I n) g9) 100 5)], (SS b c), (mX (mnN (mayB I (I 100 5)) ls I n) g9), J, 0, 0)) rfl trivial ?_
          refine r_iret okX12_minutes rfl rfl rfl (Nat.le_refl _) (Nat.le_refl _) ?_
          refine ⟨?_, rfl, ⟨g9, ?_⟩, rfl⟩
          · show some (Value.int (mnV I (nI n))) = some (Value.int (mnN (mayB I (I 100 5)) ls I n 100 5))
            rw [mn_now, mnV, hb, if_pos rfl]
          · rw [mnR, hb, if_pos rfl, nv_nI (by omega)]
    · refine r_run okX12_minutes 1 (cs := []) (σ' := (29, [some (.ref 100), some (.int (nI n)), none], [.int (-1)], (SS b c), I, J, 0, 0)) rfl trivial ?_
      refine r_iret okX12_minutes rfl rfl rfl (Nat.le_refl _) (Nat.le_refl _) ?_
      have hb : mnB I (nI n) = false := by unfold mnB; rw [h13s]; first | rfl | exact decide_eq_false h25
      refine ⟨?_, rfl, ⟨I, ?_⟩, rfl⟩
      · rw [mnV, hb]; rfl
      · have e : mnR I ls (nI n) = I := by rw [mnR, hb]; rfl
        rw [e, mX_self]
theorem c_Mminutes0 (γ : GE) {b c : Bool} {I : AI} {J : AJ} (ls : List Ln) (hM : MM I ls) (n : Int32) (hb : inB n 1 60 = false) : Ct γ mX12_minutes 4 0 0 [.ref 100, .int n] (SS b c) I J ((fun r S' I' J' => some (.int (mnV I n)) = r ∧ (SS b c) = S' ∧ (∃ G, I' = mX (mnR I ls n) G) ∧ J = J')) := by
  have ht := told0 hM.1.1
  refine ct_of okX12_minutes (L := [some (.ref 100), some (.int n), none]) (Nat.le_of_ble_eq_true rfl) rfl ?_
  refine r_run okX12_minutes 7 (cs := []) (σ' := (10, [some (.ref 100), some (.int n), none], [.int 60, .int 1, .int n, .ref 100], (SS b c), (upI I 100 0 0), J, 0, 0)) rfl trivial ?_
  simp only [ht]
  show Rj _ _ _ _ _ _ (10, [some (.ref 100), some (.int n), none], [.int 60, .int 1, .int n, .ref 100], (SS b c), I, J, 0, 0)
  refine r_callV okX12_minutes okX12_isIn [.int n, .int 1, .int 60] [] 100 rfl rfl rfl kkX12_isIn rfl rfl (by decide) rfl rfl rfl (by decide) ⟨Nat.le_refl _, Nat.le_refl _⟩ (Nat.le_of_ble_eq_true rfl) (c_isIn γ n 1 60) (fun v1 S1 I1 J1 hp => ?_)
  obtain ⟨rfl, rfl, rfl, rfl⟩ := hp
  show Rj _ _ _ _ _ _ (13, [some (.ref 100), some (.int n), none], [.int (bi (inB n 1 60))], (SS b c), I, J, 0, 0)
  refine r_ifc okX12_minutes rfl (fun (h13 : (bi (inB n 1 60)) = (0 : Int32)) => ?_) (fun (h13 : ¬ (bi (inB n 1 60)) = (0 : Int32)) => ?_)
  · have h13s := bi_0.mp h13
    refine r_run okX12_minutes 1 (cs := []) (σ' := (29, [some (.ref 100), some (.int n), none], [.int (-1)], (SS b c), I, J, 0, 0)) rfl trivial ?_
    refine r_iret okX12_minutes rfl rfl rfl (Nat.le_refl _) (Nat.le_refl _) ?_
    have hb2 : mnB I n = false := by unfold mnB; rw [hb]; rfl
    refine ⟨?_, rfl, ⟨I, ?_⟩, rfl⟩
    · rw [mnV, hb2]; rfl
    · have e : mnR I ls n = I := by rw [mnR, hb2]; rfl
      rw [e, mX_self]
  · have h13s := bi_n0.mp h13
    exact absurd h13s (by rw [hb]; decide)
theorem c_Mminutes (γ : GE) {b c : Bool} {I : AI} {J : AJ} (ls : List Ln) (hM : MM I ls) (n : Int32) : Ct γ mX12_minutes 4 0 0 [.ref 100, .int n] (SS b c) I J (fun r S' I' J' => some (.int (mnV I n)) = r ∧ (SS b c) = S' ∧ (∃ G, I' = mX (mnR I ls n) G) ∧ J = J') := by
  cases hb : inB n 1 60 with
  | false => exact c_Mminutes0 γ ls hM n hb
  | true =>
    obtain ⟨h1, h2⟩ := inB_t.mp hb
    obtain ⟨k, rfl, hk⟩ := nI_ofx (Int32.le_trans (by decide) h1)
    exact c_Mminutes1 γ ls hM k (Nat.le_of_not_lt fun z => absurd h1 (nI_ge (b := 1) z (by decide))) (Nat.le_of_not_lt fun z => absurd h2 (nI_ge (a := 60) z hk))
