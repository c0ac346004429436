/-! ===== the reference: valueOf ===== -/
theorem nI_prd {n : Nat} (h : 1 ≤ n) : nI n - 1 = nI (n - 1) := by
  obtain ⟨m, rfl⟩ : ∃ m, n = m + 1 := ⟨n - 1, by omega⟩
  rw [Nat.add_sub_cancel]; exact nI_pred _
def mKS (I : AI) (g : Nat → Int32) : AI := fun a => if a = 135 then g else I a
theorem mKS_self {I : AI} : mKS I (I 135) = I := by funext a; simp only [mKS]; split; (· rename_i h; rw [h]); rfl
theorem mKS_u {I : AI} {g : Nat → Int32} {k : Nat} {v : Int32} : upI (mKS I g) 135 k v = mKS I (upd g k v) := by
  funext a b; simp only [upI, mKS]; by_cases h : a = 135 <;> simp [h, upd]
/-- the stack's cells hold a list, the top first -/
def StL (g : Nat → Int32) : List Int32 → Prop
  | [] => True
  | x :: s => g s.length = x ∧ StL g s
theorem StL_u {g : Nat → Int32} {k : Nat} {v : Int32} : ∀ {s : List Int32}, s.length ≤ k → StL g s → StL (upd g k v) s
  | [], _, _ => trivial
  | x :: s, h, hs => ⟨by rw [upd_f (by simp at h; omega)]; exact hs.1, StL_u (by simp at h; omega) hs.2⟩
/-- the reference's code, one word of it -/
def mOk (p : Int32 × Int32) (st : List Int32) : Prop := if p.1 = 0 then st.length < 60 else if p.1 = 1 then st.length < 60 ∧ rg 9 p.2 else if p.1 = 9 then 1 ≤ st.length else 2 ≤ st.length ∧ (p.1 = 5 → ∀ y s, st = y :: s → ¬ y = 0)
def mTwo (q : Int32) : List Int32 → List Int32
  | y :: x :: s => twoV q x y :: s
  | s => s
def mNot : List Int32 → List Int32
  | x :: s => (1 - x) :: s
  | s => s
def mStp (h : Nat → Int32) (p : Int32 × Int32) (st : List Int32) : List Int32 := if p.1 = 0 then p.2 :: st else if p.1 = 1 then h (nv p.2) :: st else if p.1 = 9 then mNot st else mTwo p.1 st
def mGo (h : Nat → Int32) : List (Int32 × Int32) → List Int32 → Int32 → Prop
  | [], st, v => st = [v]
  | p :: l, st, v => mOk p st ∧ mGo h l (mStp h p st) v
/-- the cells of the code from k on hold a list of words -/
def cdA (I : AI) (k : Nat) : List (Int32 × Int32) → Prop
  | [] => True
  | p :: l => I 124 k = p.1 ∧ I 125 k = p.2 ∧ cdA I (k + 1) l
theorem lp_val (γ : GE) {b c : Bool} {I : AI} {J : AJ} (f v : Int32) (e : Nat) (he : e ≤ 900) : ∀ (l : List (Int32 × Int32)) (k n : Nat) (st : List Int32) (g : Nat → Int32), k + l.length = e → st.length = n → n ≤ 60 → cdA I k l → StL g st → mGo (I 134) l st v → Rj γ mX12_valueOf 1 0 0 (fun r S' I' J' => some (.int v) = r ∧ (SS b c) = S' ∧ (∃ g, I' = mKS I g) ∧ J = J') (5, [some (.ref 100), some (.int f), some (.int (nI e)), some (.int (nI n)), some (.int (nI k))], [], (SS b c), (mKS I g), J, 0, 0) := by
  intro l
  induction l with
  | nil =>
    intro k n st g hk hn hn6 hc hs hm
    have ek : k = e := by simpa using hk
    refine r_run okX12_valueOf 2 (cs := []) (σ' := (8, [some (.ref 100), some (.int f), some (.int (nI e)), some (.int (nI n)), some (.int (nI k))], [.int (nI e), .int (nI k)], (SS b c), (mKS I g), J, 0, 0)) rfl trivial ?_
    refine r_icmp okX12_valueOf rfl (fun (h8 : (nI e) ≤ (nI k)) => ?_) (fun (h8 : ¬ (nI e) ≤ (nI k)) => ?_)
    · refine r_run okX12_valueOf 4 (cs := [vp_in 0 60]) (σ' := (159, [some (.ref 100), some (.int f), some (.int (nI e)), some (.int (nI n)), some (.int (nI k))], [.int ((mKS I g) 135 ((0 : Int32).toNatClampNeg))], (SS b c), (mKS I g), J, 0, 0)) rfl ⟨(by unfold vp_in; decide), trivial⟩ ?_
      refine r_iret okX12_valueOf rfl rfl rfl (Nat.le_refl _) (Nat.le_refl _) ?_
      refine ⟨?_, rfl, ⟨g, rfl⟩, rfl⟩
      have h1 : st = [v] := hm
      subst h1
      show some (Value.int v) = some (Value.int (g 0))
      exact congrArg (fun z => some (Value.int z)) hs.1.symm
    · exact absurd (nI_le (by omega) (by omega)) h8
  | cons p l ih =>
    intro k n st g hk hn hn6 hc hs hm
    have hk2 : k < e := by simp at hk; omega
    have ck : (nI k).toNatClampNeg = k := nI_clamp (by omega)
    have cn : (nI n).toNatClampNeg = n := nI_clamp (by omega)
    refine r_run okX12_valueOf 2 (cs := []) (σ' := (8, [some (.ref 100), some (.int f), some (.int (nI e)), some (.int (nI n)), some (.int (nI k))], [.int (nI e), .int (nI k)], (SS b c), (mKS I g), J, 0, 0)) rfl trivial ?_
    refine r_icmp okX12_valueOf rfl (fun (h8 : (nI e) ≤ (nI k)) => ?_) (fun (h8 : ¬ (nI e) ≤ (nI k)) => ?_)
    · exact absurd h8 (nI_ge (by omega) (by omega))
    · refine r_run okX12_valueOf 4 (cs := [vp_in (nI k) 1800]) (σ' := (18, [some (.ref 100), some (.int f), some (.int (nI e)), some (.int (nI n)), some (.int (nI k))], [.int ((mKS I g) 124 ((nI k).toNatClampNeg))], (SS b c), (mKS I g), J, 0, 0)) rfl ⟨(vin (by omega) (by decide)), trivial⟩ ?_
      simp only [ck]
      show Rj _ _ _ _ _ _ (18, [some (.ref 100), some (.int f), some (.int (nI e)), some (.int (nI n)), some (.int (nI k))], [.int ((mKS I g) 124 k)], (SS b c), (mKS I g), J, 0, 0)
      refine r_ifc okX12_valueOf rfl (fun (h18 : ((mKS I g) 124 k) = (0 : Int32)) => ?_) (fun (h18 : ¬ ((mKS I g) 124 k) = (0 : Int32)) => ?_)
      · have p0 : p.1 = 0 := hc.1.symm.trans h18
        have ho2 : st.length < 60 := by have h := hm.1; unfold mOk at h; rw [if_pos p0] at h; exact h
        refine r_run okX12_valueOf 7 (cs := [vp_in (nI k) 1800]) (σ' := (44, [some (.ref 100), some (.int f), some (.int (nI e)), some (.int (nI n)), some (.int (nI k))], [.int ((mKS I g) 124 ((nI k).toNatClampNeg)), .int (nI n), .ref 135], (SS b c), (mKS I g), J, 0, 0)) rfl ⟨(vin (by omega) (by decide)), trivial⟩ ?_
        simp only [ck]
        show Rj _ _ _ _ _ _ (44, [some (.ref 100), some (.int f), some (.int (nI e)), some (.int (nI n)), some (.int (nI k))], [.int ((mKS I g) 124 k), .int (nI n), .ref 135], (SS b c), (mKS I g), J, 0, 0)
        refine r_ifc okX12_valueOf rfl (fun (h44 : ¬ ((mKS I g) 124 k) = (0 : Int32)) => ?_) (fun h440 => ?_)
        · have q0 := h44
          exact absurd h18 h44
        · have h44 : ((mKS I g) 124 k) = (0 : Int32) := Classical.not_not.mp h440
          have q0 := h44
          refine r_run okX12_valueOf 13 (cs := [vp_in (nI k) 1800, vp_in (nI n) 60]) (σ' := (5, [some (.ref 100), some (.int f), some (.int (nI e)), some (.int ((nI n) + 1)), some (.int ((nI k) + 1))], [], (SS b c), (upI (mKS I g) 135 ((nI n).toNatClampNeg) ((mKS I g) 125 ((nI k).toNatClampNeg))), J, 0, 0)) rfl ⟨(vin (by omega) (by decide)), (vin (by omega) (by decide)), trivial⟩ ?_
          simp only [ck, cn]
          show Rj _ _ _ _ _ _ (5, [some (.ref 100), some (.int f), some (.int (nI e)), some (.int ((nI n) + 1)), some (.int ((nI k) + 1))], [], (SS b c), (upI (mKS I g) 135 n ((mKS I g) 125 k)), J, 0, 0)
          rw [mKS_u]
          simp only [← nI_succ]
          have hm2 := hm.2
          unfold mStp at hm2
          rw [if_pos p0] at hm2
          refine ih (k + 1) (n + 1) (p.2 :: st) _ (by simp at hk; omega) (by simp; omega) (by omega) hc.2.2 ?_ hm2
          exact ⟨by rw [hn, upd_t]; exact hc.2.1, StL_u (by omega) hs⟩
      · have p0 : ¬ p.1 = 0 := fun q => h18 (hc.1.trans q)
        refine r_run okX12_valueOf 5 (cs := [vp_in (nI k) 1800]) (σ' := (29, [some (.ref 100), some (.int f), some (.int (nI e)), some (.int (nI n)), some (.int (nI k))], [.int 1, .int ((mKS I g) 124 ((nI k).toNatClampNeg))], (SS b c), (mKS I g), J, 0, 0)) rfl ⟨(vin (by omega) (by decide)), trivial⟩ ?_
        simp only [ck]
        show Rj _ _ _ _ _ _ (29, [some (.ref 100), some (.int f), some (.int (nI e)), some (.int (nI n)), some (.int (nI k))], [.int 1, .int ((mKS I g) 124 k)], (SS b c), (mKS I g), J, 0, 0)
        refine r_icmp okX12_valueOf rfl (fun (h29 : ¬ ((mKS I g) 124 k) = (1 : Int32)) => ?_) (fun h290 => ?_)
        · have p1 : ¬ p.1 = 1 := fun q => h29 (hc.1.trans q)
          refine r_run okX12_valueOf 5 (cs := [vp_in (nI k) 1800]) (σ' := (86, [some (.ref 100), some (.int f), some (.int (nI e)), some (.int (nI n)), some (.int (nI k))], [.int 9, .int ((mKS I g) 124 ((nI k).toNatClampNeg))], (SS b c), (mKS I g), J, 0, 0)) rfl ⟨(vin (by omega) (by decide)), trivial⟩ ?_
          simp only [ck]
          show Rj _ _ _ _ _ _ (86, [some (.ref 100), some (.int f), some (.int (nI e)), some (.int (nI n)), some (.int (nI k))], [.int 9, .int ((mKS I g) 124 k)], (SS b c), (mKS I g), J, 0, 0)
          refine r_icmp okX12_valueOf rfl (fun (h86 : ¬ ((mKS I g) 124 k) = (9 : Int32)) => ?_) (fun h860 => ?_)
          · have p9 : ¬ p.1 = 9 := fun q => h86 (hc.1.trans q)
            have ho2 : 2 ≤ st.length ∧ (p.1 = 5 → ∀ y s, st = y :: s → ¬ y = 0) := by have h := hm.1; unfold mOk at h; rw [if_neg p0, if_neg p1, if_neg p9] at h; exact h
            obtain ⟨y, x, s, rfl⟩ : ∃ y x s, st = y :: x :: s := by match st, ho2.1 with | y :: x :: s, _ => exact ⟨y, x, s, rfl⟩
            have hn2 : n = s.length + 2 := by rw [← hn]; rfl
            have e1 : nI n - 1 = nI (n - 1) := nI_prd (by omega)
            have e2 : nI (n - 1) - 1 = nI (n - 1 - 1) := nI_prd (by omega)
            have c1 : (nI (n - 1)).toNatClampNeg = n - 1 := nI_clamp (by omega)
            have c2 : (nI (n - 1 - 1)).toNatClampNeg = n - 1 - 1 := nI_clamp (by omega)
            have gy : g (n - 1) = y := by have h := hs.1; rw [show (x :: s).length = n - 1 by rw [hn2]; rfl] at h; exact h
            have gx : g (n - 1 - 1) = x := by have h := hs.2.1; rw [show s.length = n - 1 - 1 by omega] at h; exact h
            refine r_run okX12_valueOf 24 (cs := [vp_in (nI k) 1800, vp_in (((nI n) - 1) - 1) 60, vp_in ((nI n) - 1) 60]) (σ' := (143, [some (.ref 100), some (.int f), some (.int (nI e)), some (.int ((nI n) - 1)), some (.int (nI k))], [.int ((mKS I g) 135 (((nI n) - 1).toNatClampNeg)), .int ((mKS I g) 135 ((((nI n) - 1) - 1).toNatClampNeg)), .int ((mKS I g) 124 ((nI k).toNatClampNeg)), .ref 100, .int (((nI n) - 1) - 1), .ref 135], (SS b c), (mKS I g), J, 0, 0)) rfl ⟨(vin (by omega) (by decide)), (by (try rw [e1]); (try rw [e2]); exact vin (by omega) (by decide)), (by (try rw [e1]); (try rw [e2]); exact vin (by omega) (by decide)), trivial⟩ ?_
            simp only [ck, e1, e2, c1, c2]
            show Rj _ _ _ _ _ _ (143, [some (.ref 100), some (.int f), some (.int (nI e)), some (.int (nI (n - 1))), some (.int (nI k))], [.int ((mKS I g) 135 (n - 1)), .int ((mKS I g) 135 (n - 1 - 1)), .int ((mKS I g) 124 k), .ref 100, .int (nI (n - 1 - 1)), .ref 135], (SS b c), (mKS I g), J, 0, 0)
            refine r_callV okX12_valueOf okX12_twoOf [.int ((mKS I g) 124 k), .int ((mKS I g) 135 (n - 1 - 1)), .int ((mKS I g) 135 (n - 1))] [.int (nI (n - 1 - 1)), .ref 135] 100 rfl rfl rfl kkX12_twoOf rfl rfl (by decide) rfl rfl rfl (by decide) ⟨Nat.le_refl _, Nat.le_refl _⟩ (Nat.le_of_ble_eq_true rfl) (c_twoOf γ ((mKS I g) 124 k) ((mKS I g) 135 (n - 1 - 1)) ((mKS I g) 135 (n - 1)) (fun q => by show ¬ g (n - 1) = 0; rw [gy]; exact ho2.2 (hc.1.symm.trans q) y _ rfl)) (fun v1 S1 I1 J1 hp => ?_)
            obtain ⟨rfl, rfl, rfl, rfl⟩ := hp
            show Rj _ _ _ _ _ _ (146, [some (.ref 100), some (.int f), some (.int (nI e)), some (.int (nI (n - 1))), some (.int (nI k))], [.int (twoV ((mKS I g) 124 k) ((mKS I g) 135 (n - 1 - 1)) ((mKS I g) 135 (n - 1))), .int (nI (n - 1 - 1)), .ref 135], (SS b c), (mKS I g), J, 0, 0)
            refine r_run okX12_valueOf 3 (cs := [vp_in (nI (n - 1 - 1)) 60]) (σ' := (5, [some (.ref 100), some (.int f), some (.int (nI e)), some (.int (nI (n - 1))), some (.int ((nI k) + 1))], [], (SS b c), (upI (mKS I g) 135 ((nI (n - 1 - 1)).toNatClampNeg) (twoV ((mKS I g) 124 k) ((mKS I g) 135 (n - 1 - 1)) ((mKS I g) 135 (n - 1)))), J, 0, 0)) rfl ⟨(vin (by omega) (by decide)), trivial⟩ ?_
            simp only [c2]
            show Rj _ _ _ _ _ _ (5, [some (.ref 100), some (.int f), some (.int (nI e)), some (.int (nI (n - 1))), some (.int ((nI k) + 1))], [], (SS b c), (upI (mKS I g) 135 (n - 1 - 1) (twoV ((mKS I g) 124 k) ((mKS I g) 135 (n - 1 - 1)) ((mKS I g) 135 (n - 1)))), J, 0, 0)
            rw [mKS_u]
            simp only [← nI_succ]
            have hm2 := hm.2
            unfold mStp at hm2
            rw [if_neg p0, if_neg p1, if_neg p9] at hm2
            refine ih (k + 1) (n - 1) (twoV p.1 x y :: s) _ (by simp at hk; omega) (by simp; omega) (by omega) hc.2.2 ?_ hm2
            refine ⟨?_, StL_u (by omega) hs.2.2⟩
            rw [show s.length = n - 1 - 1 by omega, upd_t, ← gx, ← gy, ← hc.1]; rfl
          · have h86 : ((mKS I g) 124 k) = (9 : Int32) := Classical.not_not.mp h860
            have p9 : p.1 = 9 := hc.1.symm.trans h86
            have ho2 : 1 ≤ st.length := by have h := hm.1; unfold mOk at h; rw [if_neg p0, if_neg p1, if_pos p9] at h; exact h
            obtain ⟨x, s, rfl⟩ : ∃ x s, st = x :: s := by match st, ho2 with | x :: s, _ => exact ⟨x, s, rfl⟩
            have hn2 : n = s.length + 1 := by rw [← hn]; rfl
            have e1 : nI n - 1 = nI (n - 1) := nI_prd (by omega)
            have c1 : (nI (n - 1)).toNatClampNeg = n - 1 := nI_clamp (by omega)
            refine r_run okX12_valueOf 17 (cs := [vp_in ((nI n) - 1) 60, vp_in ((nI n) - 1) 60]) (σ' := (5, [some (.ref 100), some (.int f), some (.int (nI e)), some (.int (nI n)), some (.int ((nI k) + 1))], [], (SS b c), (upI (mKS I g) 135 (((nI n) - 1).toNatClampNeg) (1 - ((mKS I g) 135 (((nI n) - 1).toNatClampNeg)))), J, 0, 0)) rfl ⟨(by (try rw [e1]); (try rw [e2]); exact vin (by omega) (by decide)), (by (try rw [e1]); (try rw [e2]); exact vin (by omega) (by decide)), trivial⟩ ?_
            simp only [e1, c1]
            show Rj _ _ _ _ _ _ (5, [some (.ref 100), some (.int f), some (.int (nI e)), some (.int (nI n)), some (.int ((nI k) + 1))], [], (SS b c), (upI (mKS I g) 135 (n - 1) (1 - ((mKS I g) 135 (n - 1)))), J, 0, 0)
            rw [mKS_u]
            simp only [← nI_succ]
            have hm2 := hm.2
            unfold mStp at hm2
            rw [if_neg p0, if_neg p1, if_pos p9] at hm2
            refine ih (k + 1) n ((1 - x) :: s) _ (by simp at hk; omega) (by simp; omega) (by omega) hc.2.2 ?_ hm2
            have gx : g (n - 1) = x := by have h := hs.1; rw [show s.length = n - 1 by omega] at h; exact h
            refine ⟨?_, StL_u (by omega) hs.2⟩
            rw [show s.length = n - 1 by omega, upd_t, ← gx]; rfl
        · have h29 : ((mKS I g) 124 k) = (1 : Int32) := Classical.not_not.mp h290
          have p1 : p.1 = 1 := hc.1.symm.trans h29
          have ho2 : st.length < 60 ∧ rg 9 p.2 := by have h := hm.1; unfold mOk at h; rw [if_neg p0, if_pos p1] at h; exact h
          refine r_run okX12_valueOf 7 (cs := [vp_in (nI k) 1800]) (σ' := (44, [some (.ref 100), some (.int f), some (.int (nI e)), some (.int (nI n)), some (.int (nI k))], [.int ((mKS I g) 124 ((nI k).toNatClampNeg)), .int (nI n), .ref 135], (SS b c), (mKS I g), J, 0, 0)) rfl ⟨(vin (by omega) (by decide)), trivial⟩ ?_
          simp only [ck]
          show Rj _ _ _ _ _ _ (44, [some (.ref 100), some (.int f), some (.int (nI e)), some (.int (nI n)), some (.int (nI k))], [.int ((mKS I g) 124 k), .int (nI n), .ref 135], (SS b c), (mKS I g), J, 0, 0)
          refine r_ifc okX12_valueOf rfl (fun (h44_1 : ¬ ((mKS I g) 124 k) = (0 : Int32)) => ?_) (fun h44_10 => ?_)
          · have q0 := h44_1
            refine r_run okX12_valueOf 15 (cs := [vp_in (nI k) 1800, vp_in ((mKS I g) 125 ((nI k).toNatClampNeg)) 9, vp_in (nI n) 60]) (σ' := (5, [some (.ref 100), some (.int f), some (.int (nI e)), some (.int ((nI n) + 1)), some (.int ((nI k) + 1))], [], (SS b c), (upI (mKS I g) 135 ((nI n).toNatClampNeg) ((mKS I g) 134 (((mKS I g) 125 ((nI k).toNatClampNeg)).toNatClampNeg))), J, 0, 0)) rfl ⟨(vin (by omega) (by decide)), (by rw [ck]; show vp_in (I 125 k) 9; rw [hc.2.1]; obtain ⟨q, hq, eq⟩ := ho2.2; rw [eq]; exact vin hq (by decide)), (vin (by omega) (by decide)), trivial⟩ ?_
            simp only [ck, cn]
            show Rj _ _ _ _ _ _ (5, [some (.ref 100), some (.int f), some (.int (nI e)), some (.int ((nI n) + 1)), some (.int ((nI k) + 1))], [], (SS b c), (upI (mKS I g) 135 n ((mKS I g) 134 (((mKS I g) 125 k).toNatClampNeg))), J, 0, 0)
            rw [mKS_u]
            simp only [← nI_succ]
            have hm2 := hm.2
            unfold mStp at hm2
            rw [if_neg p0, if_pos p1] at hm2
            refine ih (k + 1) (n + 1) (I 134 (nv p.2) :: st) _ (by simp at hk; omega) (by simp; omega) (by omega) hc.2.2 ?_ hm2
            exact ⟨by rw [hn, upd_t, ← hc.2.1]; rfl, StL_u (by omega) hs⟩
          · have h44_1 : ((mKS I g) 124 k) = (0 : Int32) := Classical.not_not.mp h44_10
            have q0 := h44_1
            exact absurd h44_1 h18
theorem c_valueOf (γ : GE) {b c : Bool} {I : AI} {J : AJ} (v : Int32) (k e : Nat) (he : e ≤ 900) (l : List (Int32 × Int32)) (hk : k + l.length = e) (hc : cdA I k l) (hm : mGo (I 134) l [] v) : Ct γ mX12_valueOf 1 0 0 [.ref 100, .int (nI k), .int (nI e)] (SS b c) I J ((fun r S' I' J' => some (.int v) = r ∧ (SS b c) = S' ∧ (∃ g, I' = mKS I g) ∧ J = J')) := by
  refine ct_of okX12_valueOf (L := [some (.ref 100), some (.int (nI k)), some (.int (nI e)), none, none]) (Nat.le_of_ble_eq_true rfl) rfl ?_
  refine r_run okX12_valueOf 4 (cs := []) (σ' := (5, [some (.ref 100), some (.int (nI k)), some (.int (nI e)), some (.int 0), some (.int (nI k))], [], (SS b c), I, J, 0, 0)) rfl trivial ?_
  have h := lp_val γ (b := b) (c := c) (I := I) (J := J) (nI k) v e he l k 0 [] (I 135) hk rfl (by decide) hc trivial hm
  rw [mKS_self, nI_0] at h
  exact h
