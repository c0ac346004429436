/-! ===== the reference: takes, twoOf ===== -/
def mH (I : AI) (g : Nat → Int32) : AI := fun a => if a = 134 then g else I a
theorem mH_self {I : AI} : mH I (I 134) = I := by funext a; simp only [mH]; split; (· rename_i h; rw [h]); rfl
theorem mH_ne {I : AI} {g : Nat → Int32} {a : Nat} (h : a ≠ 134) : mH I g a = I a := by simp [mH, h]
theorem mH_u {I : AI} {g : Nat → Int32} {k : Nat} {v : Int32} : upI (mH I g) 134 k v = mH I (upd g k v) := by
  funext a b; simp only [upI, mH]; by_cases h : a = 134 <;> simp [h, upd]
theorem pplN_e {I I' : AI} (h1 : I' 101 = I 101) (h2 : I' 102 = I 102) (z : Int32) : ∀ n, pplN I' z n = pplN I z n
  | 0 => rfl
  | n + 1 => by unfold pplN; rw [h1, h2, pplN_e h1 h2 z n]
theorem thrN_e {I I' : AI} (h1 : I' 127 = I 127) (h2 : I' 128 = I 128) (h3 : I' 129 = I 129) (y t : Int32) : ∀ n, thrN I' y t n = thrN I y t n
  | 0 => rfl
  | n + 1 => by unfold thrN; rw [h1, h2, h3, thrN_e h1 h2 h3 y t n]
def tkC (I : AI) (y : Int32) (i : Nat) : Bool := !decide (I 110 i = 1) && (decide (I 101 (nv (I 113 i)) = y) && (decide (¬ I 112 i < I 100 5 - 9) && decide (I 112 i ≤ I 100 5)))
def tkK (I : AI) (i : Nat) : Nat := if I 110 i = 0 then 0 else if I 110 i = 2 then 1 else 2
def tkB (I : AI) (y : Int32) (q i : Nat) : Bool := tkC I y i && decide (tkK I i = q)
def takV (I : AI) (y : Int32) (q : Nat) : Int32 := match q with
  | 0 => nI (cnt (tkB I y 0) (nv (I 100 13)))
  | 1 => nI (cnt (tkB I y 1) (nv (I 100 13)))
  | 2 => nI (cnt (tkB I y 2) (nv (I 100 13)))
  | 3 => I 136 (nv y)
  | 4 => I 137 (nv y)
  | 5 => pplN I ((1 : Int32) <<< (y &&& 31)) 96
  | 6 => match thr I y (I 100 5) with | none => 0 | some w => I 129 w - I 100 5
  | 7 => I 133 (nv y)
  | _ => I 100 5 / 60
theorem z0 : (0 : Int32).toNatClampNeg = 0 := by decide
theorem z1 : (1 : Int32).toNatClampNeg = 1 := by decide
theorem z2 : (2 : Int32).toNatClampNeg = 2 := by decide
theorem z3 : (3 : Int32).toNatClampNeg = 3 := by decide
theorem z4 : (4 : Int32).toNatClampNeg = 4 := by decide
theorem z5 : (5 : Int32).toNatClampNeg = 5 := by decide
theorem z6 : (6 : Int32).toNatClampNeg = 6 := by decide
theorem z7 : (7 : Int32).toNatClampNeg = 7 := by decide
theorem z8 : (8 : Int32).toNatClampNeg = 8 := by decide
theorem lp_takes (γ : GE) {b c : Bool} {I : AI} {J : AJ} {Post : PT} (y : Int32) (m : Nat) (hm : m < 301) (em : I 100 13 = nI m) (hT : MTel I) (K : ∀ g : Nat → Int32, (g 0 = nI (cnt (tkB I y 0) m) ∧ g 1 = nI (cnt (tkB I y 1) m) ∧ g 2 = nI (cnt (tkB I y 2) m)) → Rj γ mX12_takes 1 0 0 Post (137, [some (.ref 100), some (.int y), none, none], [], (SS b c), (mH I g), J, 0, 0)) : ∀ (j i : Nat) (g : Nat → Int32), i + j = m → (g 0 = nI (cnt (tkB I y 0) i) ∧ g 1 = nI (cnt (tkB I y 1) i) ∧ g 2 = nI (cnt (tkB I y 2) i)) → Rj γ mX12_takes 1 0 0 Post (23, [some (.ref 100), some (.int y), some (.int (nI i)), none], [], (SS b c), (mH I g), J, 0, 0) := by
  intro j
  induction j with
  | zero =>
    intro i g hj hi
    refine r_run okX12_takes 3 (cs := []) (σ' := (28, [some (.ref 100), some (.int y), some (.int (nI i)), none], [.int ((mH I g) 100 13), .int (nI i)], (SS b c), (mH I g), J, 0, 0)) rfl trivial ?_
    refine r_icmp okX12_takes rfl (fun (h28 : ((mH I g) 100 13) ≤ (nI i)) => ?_) (fun (h28 : ¬ ((mH I g) 100 13) ≤ (nI i)) => ?_)
    · have e : i = m := by omega
      subst e
      refine r_weak (L' := [some (.ref 100), some (.int y), none, none]) ⟨rfl, rfl, trivial⟩ ?_
      exact K g hi
    · exact absurd (by show I 100 13 ≤ _; rw [em]; exact nI_le (by omega) (by omega)) h28
  | succ j ih =>
    intro i g hj hi
    have ci : (nI i).toNatClampNeg = i := nI_clamp (by omega)
    obtain ⟨-, -, -, ⟨p, hp, ep⟩, -⟩ := hT.2 i (by rw [em, nv_nI (by omega)]; omega)
    have vx : vp_in ((mH I g) 113 (nI i).toNatClampNeg) 96 := by rw [ci]; show vp_in (I 113 i) 96; rw [ep]; exact vin hp (by decide)
    refine r_run okX12_takes 3 (cs := []) (σ' := (28, [some (.ref 100), some (.int y), some (.int (nI i)), none], [.int ((mH I g) 100 13), .int (nI i)], (SS b c), (mH I g), J, 0, 0)) rfl trivial ?_
    refine r_icmp okX12_takes rfl (fun (h28 : ((mH I g) 100 13) ≤ (nI i)) => ?_) (fun (h28 : ¬ ((mH I g) 100 13) ≤ (nI i)) => ?_)
    · exact absurd h28 (by show ¬ I 100 13 ≤ _; rw [em]; exact nI_ge (by omega) (by omega))
    · refine r_run okX12_takes 5 (cs := [vp_in (nI i) 300]) (σ' := (38, [some (.ref 100), some (.int y), some (.int (nI i)), none], [.int 1, .int ((mH I g) 110 ((nI i).toNatClampNeg))], (SS b c), (mH I g), J, 0, 0)) rfl ⟨(vin (by omega) (by decide)), trivial⟩ ?_
      simp only [ci]
      show Rj _ _ _ _ _ _ (38, [some (.ref 100), some (.int y), some (.int (nI i)), none], [.int 1, .int ((mH I g) 110 i)], (SS b c), (mH I g), J, 0, 0)
      refine r_icmp okX12_takes rfl (fun (h38 : ((mH I g) 110 i) = (1 : Int32)) => ?_) (fun (h38 : ¬ ((mH I g) 110 i) = (1 : Int32)) => ?_)
      · refine r_run okX12_takes 2 (cs := []) (σ' := (23, [some (.ref 100), some (.int y), some (.int (nI i + 1)), none], [], (SS b c), (mH I g), J, 0, 0)) rfl trivial ?_
        rw [← nI_succ]
        refine r_weak (L' := [some (.ref 100), some (.int y), some (.int (nI (i + 1))), none]) ⟨rfl, rfl, rfl, trivial⟩ ?_
        have hc : tkC I y i = false := by unfold tkC; rw [show decide (I 110 i = 1) = true from decide_eq_true h38]; rfl
        refine ih (i + 1) g (by omega) ⟨?_, ?_, ?_⟩
        · rw [hi.1, cnt, tkB, hc]; rfl
        · rw [hi.2.1, cnt, tkB, hc]; rfl
        · rw [hi.2.2, cnt, tkB, hc]; rfl
      · refine r_run okX12_takes 8 (cs := [vp_in (nI i) 300, vp_in ((mH I g) 113 ((nI i).toNatClampNeg)) 96]) (σ' := (53, [some (.ref 100), some (.int y), some (.int (nI i)), none], [.int y, .int ((mH I g) 101 (((mH I g) 113 ((nI i).toNatClampNeg)).toNatClampNeg))], (SS b c), (mH I g), J, 0, 0)) rfl ⟨(vin (by omega) (by decide)), vx, trivial⟩ ?_
        simp only [ci]
        show Rj _ _ _ _ _ _ (53, [some (.ref 100), some (.int y), some (.int (nI i)), none], [.int y, .int ((mH I g) 101 (((mH I g) 113 i).toNatClampNeg))], (SS b c), (mH I g), J, 0, 0)
        refine r_icmp okX12_takes rfl (fun (h53 : ¬ ((mH I g) 101 (((mH I g) 113 i).toNatClampNeg)) = y) => ?_) (fun h530 => ?_)
        · refine r_run okX12_takes 2 (cs := []) (σ' := (23, [some (.ref 100), some (.int y), some (.int (nI i + 1)), none], [], (SS b c), (mH I g), J, 0, 0)) rfl trivial ?_
          rw [← nI_succ]
          refine r_weak (L' := [some (.ref 100), some (.int y), some (.int (nI (i + 1))), none]) ⟨rfl, rfl, rfl, trivial⟩ ?_
          have hc : tkC I y i = false := by unfold tkC; rw [show decide (I 101 (nv (I 113 i)) = y) = false from decide_eq_false (by have h := h53; exact h)]; simp
          refine ih (i + 1) g (by omega) ⟨?_, ?_, ?_⟩
          · rw [hi.1, cnt, tkB, hc]; rfl
          · rw [hi.2.1, cnt, tkB, hc]; rfl
          · rw [hi.2.2, cnt, tkB, hc]; rfl
        · have h53 : ((mH I g) 101 (((mH I g) 113 i).toNatClampNeg)) = y := Classical.not_not.mp h530
          refine r_run okX12_takes 8 (cs := [vp_in (nI i) 300]) (σ' := (69, [some (.ref 100), some (.int y), some (.int (nI i)), none], [.int (((mH I g) 100 5) - 9), .int ((mH I g) 112 ((nI i).toNatClampNeg))], (SS b c), (mH I g), J, 0, 0)) rfl ⟨(vin (by omega) (by decide)), trivial⟩ ?_
          simp only [ci]
          show Rj _ _ _ _ _ _ (69, [some (.ref 100), some (.int y), some (.int (nI i)), none], [.int (((mH I g) 100 5) - 9), .int ((mH I g) 112 i)], (SS b c), (mH I g), J, 0, 0)
          refine r_icmp okX12_takes rfl (fun (h69 : ((mH I g) 112 i) < (((mH I g) 100 5) - 9)) => ?_) (fun (h69 : ¬ ((mH I g) 112 i) < (((mH I g) 100 5) - 9)) => ?_)
          · refine r_run okX12_takes 2 (cs := []) (σ' := (23, [some (.ref 100), some (.int y), some (.int (nI i + 1)), none], [], (SS b c), (mH I g), J, 0, 0)) rfl trivial ?_
            rw [← nI_succ]
            refine r_weak (L' := [some (.ref 100), some (.int y), some (.int (nI (i + 1))), none]) ⟨rfl, rfl, rfl, trivial⟩ ?_
            have hc : tkC I y i = false := by unfold tkC; rw [show decide (¬ I 112 i < I 100 5 - 9) = false from decide_eq_false (Classical.not_not.mpr h69)]; simp
            refine ih (i + 1) g (by omega) ⟨?_, ?_, ?_⟩
            · rw [hi.1, cnt, tkB, hc]; rfl
            · rw [hi.2.1, cnt, tkB, hc]; rfl
            · rw [hi.2.2, cnt, tkB, hc]; rfl
          · refine r_run okX12_takes 6 (cs := [vp_in (nI i) 300]) (σ' := (82, [some (.ref 100), some (.int y), some (.int (nI i)), none], [.int ((mH I g) 100 5), .int ((mH I g) 112 ((nI i).toNatClampNeg))], (SS b c), (mH I g), J, 0, 0)) rfl ⟨(vin (by omega) (by decide)), trivial⟩ ?_
            simp only [ci]
            show Rj _ _ _ _ _ _ (82, [some (.ref 100), some (.int y), some (.int (nI i)), none], [.int ((mH I g) 100 5), .int ((mH I g) 112 i)], (SS b c), (mH I g), J, 0, 0)
            refine r_icmp okX12_takes rfl (fun (h82 : ((mH I g) 112 i) ≤ ((mH I g) 100 5)) => ?_) (fun (h82 : ¬ ((mH I g) 112 i) ≤ ((mH I g) 100 5)) => ?_)
            · refine r_run okX12_takes 4 (cs := [vp_in (nI i) 300]) (σ' := (94, [some (.ref 100), some (.int y), some (.int (nI i)), none], [.int ((mH I g) 110 ((nI i).toNatClampNeg))], (SS b c), (mH I g), J, 0, 0)) rfl ⟨(vin (by omega) (by decide)), trivial⟩ ?_
              simp only [ci]
              show Rj _ _ _ _ _ _ (94, [some (.ref 100), some (.int y), some (.int (nI i)), none], [.int ((mH I g) 110 i)], (SS b c), (mH I g), J, 0, 0)
              refine r_ifc okX12_takes rfl (fun (h94 : ¬ ((mH I g) 110 i) = (0 : Int32)) => ?_) (fun h940 => ?_)
              · refine r_run okX12_takes 5 (cs := [vp_in (nI i) 300]) (σ' := (108, [some (.ref 100), some (.int y), some (.int (nI i)), none], [.int 2, .int ((mH I g) 110 ((nI i).toNatClampNeg))], (SS b c), (mH I g), J, 0, 0)) rfl ⟨(vin (by omega) (by decide)), trivial⟩ ?_
                simp only [ci]
                show Rj _ _ _ _ _ _ (108, [some (.ref 100), some (.int y), some (.int (nI i)), none], [.int 2, .int ((mH I g) 110 i)], (SS b c), (mH I g), J, 0, 0)
                refine r_icmp okX12_takes rfl (fun (h108 : ¬ ((mH I g) 110 i) = (2 : Int32)) => ?_) (fun h1080 => ?_)
                · refine r_run okX12_takes 14 (cs := [vp_in 2 9, vp_in 2 9]) (σ' := (23, [some (.ref 100), some (.int y), some (.int (nI i + 1)), some (.int 2)], [], (SS b c), (upI (mH I g) 134 ((2 : Int32).toNatClampNeg) (((mH I g) 134 ((2 : Int32).toNatClampNeg)) + 1)), J, 0, 0)) rfl ⟨(by unfold vp_in; decide), (by unfold vp_in; decide), trivial⟩ ?_
                  simp only [z2]
                  show Rj _ _ _ _ _ _ (23, [some (.ref 100), some (.int y), some (.int (nI i + 1)), some (.int 2)], [], (SS b c), (upI (mH I g) 134 2 (((mH I g) 134 2) + 1)), J, 0, 0)
                  rw [mH_u, ← nI_succ]
                  refine r_weak (L' := [some (.ref 100), some (.int y), some (.int (nI (i + 1))), none]) ⟨rfl, rfl, rfl, trivial⟩ ?_
                  have hc : tkC I y i = true := by unfold tkC; rw [show decide (I 110 i = 1) = false from decide_eq_false h38, show decide (I 101 (nv (I 113 i)) = y) = true from decide_eq_true (by have h := h53; exact h), show decide (¬ I 112 i < I 100 5 - 9) = true from decide_eq_true (by have h := h69; exact h), show decide (I 112 i ≤ I 100 5) = true from decide_eq_true (by have h := h82; exact h)]; rfl
                  have hk : tkK I i = 2 := by unfold tkK; rw [if_neg (show ¬ I 110 i = 0 from h94), if_neg (show ¬ I 110 i = 2 from h108)]
                  refine ih (i + 1) _ (by omega) ⟨?_, ?_, ?_⟩
                  · rw [upd_f (by decide), hi.1, cnt, tkB, hc, hk]; rfl
                  · rw [upd_f (by decide), hi.2.1, cnt, tkB, hc, hk]; rfl
                  · rw [upd_t]; show g 2 + 1 = _; rw [hi.2.2, ← nI_succ, cnt, tkB, hc, hk]; rfl
                · have h108 : ((mH I g) 110 i) = (2 : Int32) := Classical.not_not.mp h1080
                  refine r_run okX12_takes 15 (cs := [vp_in 1 9, vp_in 1 9]) (σ' := (23, [some (.ref 100), some (.int y), some (.int (nI i + 1)), some (.int 1)], [], (SS b c), (upI (mH I g) 134 ((1 : Int32).toNatClampNeg) (((mH I g) 134 ((1 : Int32).toNatClampNeg)) + 1)), J, 0, 0)) rfl ⟨(by unfold vp_in; decide), (by unfold vp_in; decide), trivial⟩ ?_
                  simp only [z1]
                  show Rj _ _ _ _ _ _ (23, [some (.ref 100), some (.int y), some (.int (nI i + 1)), some (.int 1)], [], (SS b c), (upI (mH I g) 134 1 (((mH I g) 134 1) + 1)), J, 0, 0)
                  rw [mH_u, ← nI_succ]
                  refine r_weak (L' := [some (.ref 100), some (.int y), some (.int (nI (i + 1))), none]) ⟨rfl, rfl, rfl, trivial⟩ ?_
                  have hc : tkC I y i = true := by unfold tkC; rw [show decide (I 110 i = 1) = false from decide_eq_false h38, show decide (I 101 (nv (I 113 i)) = y) = true from decide_eq_true (by have h := h53; exact h), show decide (¬ I 112 i < I 100 5 - 9) = true from decide_eq_true (by have h := h69; exact h), show decide (I 112 i ≤ I 100 5) = true from decide_eq_true (by have h := h82; exact h)]; rfl
                  have hk : tkK I i = 1 := by unfold tkK; rw [if_neg (show ¬ I 110 i = 0 from h94), if_pos (show I 110 i = 2 from h108)]
                  refine ih (i + 1) _ (by omega) ⟨?_, ?_, ?_⟩
                  · rw [upd_f (by decide), hi.1, cnt, tkB, hc, hk]; rfl
                  · rw [upd_t]; show g 1 + 1 = _; rw [hi.2.1, ← nI_succ, cnt, tkB, hc, hk]; rfl
                  · rw [upd_f (by decide), hi.2.2, cnt, tkB, hc, hk]; rfl
              · have h94 : ((mH I g) 110 i) = (0 : Int32) := Classical.not_not.mp h940
                refine r_run okX12_takes 15 (cs := [vp_in 0 9, vp_in 0 9]) (σ' := (23, [some (.ref 100), some (.int y), some (.int (nI i + 1)), some (.int 0)], [], (SS b c), (upI (mH I g) 134 ((0 : Int32).toNatClampNeg) (((mH I g) 134 ((0 : Int32).toNatClampNeg)) + 1)), J, 0, 0)) rfl ⟨(by unfold vp_in; decide), (by unfold vp_in; decide), trivial⟩ ?_
                simp only [z0]
                show Rj _ _ _ _ _ _ (23, [some (.ref 100), some (.int y), some (.int (nI i + 1)), some (.int 0)], [], (SS b c), (upI (mH I g) 134 0 (((mH I g) 134 0) + 1)), J, 0, 0)
                rw [mH_u, ← nI_succ]
                refine r_weak (L' := [some (.ref 100), some (.int y), some (.int (nI (i + 1))), none]) ⟨rfl, rfl, rfl, trivial⟩ ?_
                have hc : tkC I y i = true := by unfold tkC; rw [show decide (I 110 i = 1) = false from decide_eq_false h38, show decide (I 101 (nv (I 113 i)) = y) = true from decide_eq_true (by have h := h53; exact h), show decide (¬ I 112 i < I 100 5 - 9) = true from decide_eq_true (by have h := h69; exact h), show decide (I 112 i ≤ I 100 5) = true from decide_eq_true (by have h := h82; exact h)]; rfl
                have hk : tkK I i = 0 := by unfold tkK; rw [if_pos (show I 110 i = 0 from h94)]
                refine ih (i + 1) _ (by omega) ⟨?_, ?_, ?_⟩
                · rw [upd_t]; show g 0 + 1 = _; rw [hi.1, ← nI_succ, cnt, tkB, hc, hk]; rfl
                · rw [upd_f (by decide), hi.2.1, cnt, tkB, hc, hk]; rfl
                · rw [upd_f (by decide), hi.2.2, cnt, tkB, hc, hk]; rfl
            · refine r_run okX12_takes 3 (cs := []) (σ' := (23, [some (.ref 100), some (.int y), some (.int (nI i + 1)), none], [], (SS b c), (mH I g), J, 0, 0)) rfl trivial ?_
              rw [← nI_succ]
              refine r_weak (L' := [some (.ref 100), some (.int y), some (.int (nI (i + 1))), none]) ⟨rfl, rfl, rfl, trivial⟩ ?_
              have hc : tkC I y i = false := by unfold tkC; rw [show decide (I 112 i ≤ I 100 5) = false from decide_eq_false h82]; simp
              refine ih (i + 1) g (by omega) ⟨?_, ?_, ?_⟩
              · rw [hi.1, cnt, tkB, hc]; rfl
              · rw [hi.2.1, cnt, tkB, hc]; rfl
              · rw [hi.2.2, cnt, tkB, hc]; rfl
theorem c_peopleOfE (γ : GE) {b c : Bool} {I I' : AI} {J : AJ} (h1 : I' 101 = I 101) (h2 : I' 102 = I 102) (z : Int32) : Ct γ mX12_peopleOf 0 0 0 [.ref 100, .int z] (SS b c) I' J (rI (pplN I z 96) (SS b c) I' J) := by
  have h := c_peopleOf γ (b := b) (c := c) (I := I') (J := J) z
  rw [pplN_e h1 h2] at h
  exact h
theorem c_thereAtE (γ : GE) {b c : Bool} {I I' : AI} {J : AJ} (h0 : I' 100 = I 100) (h1 : I' 127 = I 127) (h2 : I' 128 = I 128) (h3 : I' 129 = I 129) (hI : rg 201 (I 100 45)) {y t x : Int32} (he : bsI (thr I y t) = x) : Ct γ mX12_thereAt 0 0 0 [.ref 100, .int y, .int t] (SS b c) I' J (rI x (SS b c) I' J) := by
  have h := c_thereAt γ (b := b) (c := c) (I := I') (J := J) (by rw [h0]; exact hI) y t
  rw [thr, thrN_e h1 h2 h3, h0, ← thr, he] at h
  exact h
theorem c_takesN (γ : GE) {b c : Bool} {I : AI} {J : AJ} {g : Nat → Int32} (hT : MTel I) (hW : rg 201 (I 100 45)) (y : Int32) (hy : ctyB y = true) (he : thr I y (I 100 5) = none) : Ct γ mX12_takes 1 0 0 [.ref 100, .int y] (SS b c) (mH I g) J ((fun r S' I' J' => none = r ∧ (SS b c) = S' ∧ (∃ g, I' = mH I g ∧ ∀ q, q < 9 → g q = takV I y q) ∧ J = J')) := by
  have cy0 : y.toNatClampNeg = nv y := rfl
  have vy : vp_in y 8 := by obtain ⟨k, hk, rfl⟩ := cty_nat hy; exact vin hk (by decide)
  refine ct_of okX12_takes (L := [some (.ref 100), some (.int y), none, none]) (Nat.le_of_ble_eq_true rfl) rfl ?_
  refine r_run okX12_takes 17 (cs := [vp_in 0 9, vp_in 1 9, vp_in 2 9]) (σ' := (23, [some (.ref 100), some (.int y), some (.int 0), none], [], (SS b c), (upI (upI (upI (mH I g) 134 ((0 : Int32).toNatClampNeg) 0) 134 ((1 : Int32).toNatClampNeg) 0) 134 ((2 : Int32).toNatClampNeg) 0), J, 0, 0)) rfl ⟨(by unfold vp_in; decide), (by unfold vp_in; decide), (by unfold vp_in; decide), trivial⟩ ?_
  simp only [z0, z1, z2]
  show Rj _ _ _ _ _ _ (23, [some (.ref 100), some (.int y), some (.int 0), none], [], (SS b c), (upI (upI (upI (mH I g) 134 0 0) 134 1 0) 134 2 0), J, 0, 0)
  rw [mH_u, mH_u, mH_u]
  obtain ⟨m, hm, em⟩ := hT.1
  have h := lp_takes γ (b := b) (c := c) (I := I) (J := J) (Post := (fun r S' I' J' => none = r ∧ (SS b c) = S' ∧ (∃ g, I' = mH I g ∧ ∀ q, q < 9 → g q = takV I y q) ∧ J = J')) y m hm em hT (fun g hi => ?_) m 0 (upd (upd (upd g 0 0) 1 0) 2 0) (by omega) ⟨rfl, rfl, rfl⟩
  · rw [nI_0] at h
    exact h
  · refine r_run okX12_takes 23 (cs := [vp_in y 8, vp_in 3 9, vp_in y 8, vp_in 4 9]) (σ' := (170, [some (.ref 100), some (.int y), none, none], [.int ((1 : Int32) <<< (y &&& 31)), .ref 100, .int 5, .ref 134], (SS b c), (upI (upI (mH I g) 134 ((3 : Int32).toNatClampNeg) ((mH I g) 136 y.toNatClampNeg)) 134 ((4 : Int32).toNatClampNeg) ((mH I g) 137 y.toNatClampNeg)), J, 0, 0)) rfl ⟨vy, (by unfold vp_in; decide), vy, (by unfold vp_in; decide), trivial⟩ ?_
    simp only [z3, z4, cy0]
    show Rj _ _ _ _ _ _ (170, [some (.ref 100), some (.int y), none, none], [.int ((1 : Int32) <<< (y &&& 31)), .ref 100, .int 5, .ref 134], (SS b c), (upI (upI (mH I g) 134 3 ((mH I g) 136 (nv y))) 134 4 ((mH I g) 137 (nv y))), J, 0, 0)
    refine r_callV okX12_takes okX12_peopleOf [.int ((1 : Int32) <<< (y &&& 31))] [.int 5, .ref 134] 100 rfl rfl rfl kkX12_peopleOf rfl rfl (by decide) rfl rfl rfl (by decide) ⟨Nat.le_refl _, Nat.le_refl _⟩ (Nat.le_of_ble_eq_true rfl) (c_peopleOfE γ (I := I) (I' := (upI (upI (mH I g) 134 3 ((mH I g) 136 (nv y))) 134 4 ((mH I g) 137 (nv y)))) rfl rfl ((1 : Int32) <<< (y &&& 31))) (fun v1 S1 I1 J1 hp => ?_)
    obtain ⟨rfl, rfl, rfl, rfl⟩ := hp
    show Rj _ _ _ _ _ _ (173, [some (.ref 100), some (.int y), none, none], [.int (pplN I ((1 : Int32) <<< (y &&& 31)) 96), .int 5, .ref 134], (SS b c), (upI (upI (mH I g) 134 3 ((mH I g) 136 (nv y))) 134 4 ((mH I g) 137 (nv y))), J, 0, 0)
    refine r_run okX12_takes 5 (cs := [vp_in 5 9]) (σ' := (180, [some (.ref 100), some (.int y), none, none], [.int ((mH I g) 100 5), .int y, .ref 100], (SS b c), (upI (upI (upI (mH I g) 134 3 ((mH I g) 136 (nv y))) 134 4 ((mH I g) 137 (nv y))) 134 ((5 : Int32).toNatClampNeg) (pplN I ((1 : Int32) <<< (y &&& 31)) 96)), J, 0, 0)) rfl ⟨(by unfold vp_in; decide), trivial⟩ ?_
    simp only [z5]
    show Rj _ _ _ _ _ _ (180, [some (.ref 100), some (.int y), none, none], [.int ((mH I g) 100 5), .int y, .ref 100], (SS b c), (upI (upI (upI (mH I g) 134 3 ((mH I g) 136 (nv y))) 134 4 ((mH I g) 137 (nv y))) 134 5 (pplN I ((1 : Int32) <<< (y &&& 31)) 96)), J, 0, 0)
    refine r_callV okX12_takes okX12_thereAt [.int y, .int ((mH I g) 100 5)] [] 100 rfl rfl rfl kkX12_thereAt rfl rfl (by decide) rfl rfl rfl (by decide) ⟨Nat.le_refl _, Nat.le_refl _⟩ (Nat.le_of_ble_eq_true rfl) (c_thereAtE γ (I := I) (I' := (upI (upI (upI (mH I g) 134 3 ((mH I g) 136 (nv y))) 134 4 ((mH I g) 137 (nv y))) 134 5 (pplN I ((1 : Int32) <<< (y &&& 31)) 96))) rfl rfl rfl rfl hW (y := y) (t := I 100 5) (by rw [he]; try rfl)) (fun v1 S1 I1 J1 hp => ?_)
    obtain ⟨rfl, rfl, rfl, rfl⟩ := hp
    show Rj _ _ _ _ _ _ (183, [some (.ref 100), some (.int y), none, none], [.int (-1)], (SS b c), (upI (upI (upI (mH I g) 134 3 ((mH I g) 136 (nv y))) 134 4 ((mH I g) 137 (nv y))) 134 5 (pplN I ((1 : Int32) <<< (y &&& 31)) 96)), J, 0, 0)
    refine r_run okX12_takes 6 (cs := []) (σ' := (192, [some (.ref 100), some (.int y), some (.int (-1)), none], [.int (-1), .int (-1), .int 6, .ref 134], (SS b c), (upI (upI (upI (mH I g) 134 3 ((mH I g) 136 (nv y))) 134 4 ((mH I g) 137 (nv y))) 134 5 (pplN I ((1 : Int32) <<< (y &&& 31)) 96)), J, 0, 0)) rfl trivial ?_
    refine r_icmp okX12_takes rfl (fun (h192 : ¬ ((-1) : Int32) = ((-1) : Int32)) => ?_) (fun h1920 => ?_)
    · exact absurd h192 (by decide)
    · have h192 : ((-1) : Int32) = ((-1) : Int32) := Classical.not_not.mp h1920
      refine r_run okX12_takes 19 (cs := [vp_in 6 9, vp_in y 8, vp_in 7 9, ¬ (60 : Int32) = 0, vp_in 8 9]) (σ' := (238, [some (.ref 100), some (.int y), some (.int (-1)), none], [], (SS b c), (upI (upI (upI (upI (upI (upI (mH I g) 134 3 ((mH I g) 136 (nv y))) 134 4 ((mH I g) 137 (nv y))) 134 5 (pplN I ((1 : Int32) <<< (y &&& 31)) 96)) 134 ((6 : Int32).toNatClampNeg) 0) 134 ((7 : Int32).toNatClampNeg) ((mH I g) 133 y.toNatClampNeg)) 134 ((8 : Int32).toNatClampNeg) (((mH I g) 100 5) / 60)), J, 0, 0)) rfl ⟨(by unfold vp_in; decide), vy, (by unfold vp_in; decide), (by decide), (by unfold vp_in; decide), trivial⟩ ?_
      simp only [z6, z7, z8, cy0]
      show Rj _ _ _ _ _ _ (238, [some (.ref 100), some (.int y), some (.int (-1)), none], [], (SS b c), (upI (upI (upI (upI (upI (upI (mH I g) 134 3 ((mH I g) 136 (nv y))) 134 4 ((mH I g) 137 (nv y))) 134 5 (pplN I ((1 : Int32) <<< (y &&& 31)) 96)) 134 6 0) 134 7 ((mH I g) 133 (nv y))) 134 8 (((mH I g) 100 5) / 60)), J, 0, 0)
      refine r_vret okX12_takes rfl rfl (Nat.le_refl _) (Nat.le_refl _) ?_
      refine ⟨rfl, rfl, ?_, rfl⟩
      simp only [mH_u]
      refine ⟨_, rfl, fun q hq => ?_⟩
      rcases (show q = 0 ∨ q = 1 ∨ q = 2 ∨ q = 3 ∨ q = 4 ∨ q = 5 ∨ q = 6 ∨ q = 7 ∨ q = 8 by omega) with rfl | rfl | rfl | rfl | rfl | rfl | rfl | rfl | rfl
      · show _ = nI (cnt (tkB I y 0) (nv (I 100 13))); rw [em, nv_nI (by omega)]; exact hi.1
      · show _ = nI (cnt (tkB I y 1) (nv (I 100 13))); rw [em, nv_nI (by omega)]; exact hi.2.1
      · show _ = nI (cnt (tkB I y 2) (nv (I 100 13))); rw [em, nv_nI (by omega)]; exact hi.2.2
      · rfl
      · rfl
      · rfl
      · show _ = takV I y 6; unfold takV; rw [he]; rfl
      · rfl
      · rfl
theorem c_takesS (γ : GE) {b c : Bool} {I : AI} {J : AJ} {g : Nat → Int32} (hT : MTel I) (hW : rg 201 (I 100 45)) (y : Int32) (hy : ctyB y = true) (w : Nat) (he : thr I y (I 100 5) = some w) : Ct γ mX12_takes 1 0 0 [.ref 100, .int y] (SS b c) (mH I g) J ((fun r S' I' J' => none = r ∧ (SS b c) = S' ∧ (∃ g, I' = mH I g ∧ ∀ q, q < 9 → g q = takV I y q) ∧ J = J')) := by
  have cy0 : y.toNatClampNeg = nv y := rfl
  have vy : vp_in y 8 := by obtain ⟨k, hk, rfl⟩ := cty_nat hy; exact vin hk (by decide)
  have hw := thr_lt hW he
  have cw : (nI w).toNatClampNeg = w := nI_clamp (by omega)
  have vw : vp_in (nI w) 200 := vin hw.2 (by decide)
  refine ct_of okX12_takes (L := [some (.ref 100), some (.int y), none, none]) (Nat.le_of_ble_eq_true rfl) rfl ?_
  refine r_run okX12_takes 17 (cs := [vp_in 0 9, vp_in 1 9, vp_in 2 9]) (σ' := (23, [some (.ref 100), some (.int y), some (.int 0), none], [], (SS b c), (upI (upI (upI (mH I g) 134 ((0 : Int32).toNatClampNeg) 0) 134 ((1 : Int32).toNatClampNeg) 0) 134 ((2 : Int32).toNatClampNeg) 0), J, 0, 0)) rfl ⟨(by unfold vp_in; decide), (by unfold vp_in; decide), (by unfold vp_in; decide), trivial⟩ ?_
  simp only [z0, z1, z2]
  show Rj _ _ _ _ _ _ (23, [some (.ref 100), some (.int y), some (.int 0), none], [], (SS b c), (upI (upI (upI (mH I g) 134 0 0) 134 1 0) 134 2 0), J, 0, 0)
  rw [mH_u, mH_u, mH_u]
  obtain ⟨m, hm, em⟩ := hT.1
  have h := lp_takes γ (b := b) (c := c) (I := I) (J := J) (Post := (fun r S' I' J' => none = r ∧ (SS b c) = S' ∧ (∃ g, I' = mH I g ∧ ∀ q, q < 9 → g q = takV I y q) ∧ J = J')) y m hm em hT (fun g hi => ?_) m 0 (upd (upd (upd g 0 0) 1 0) 2 0) (by omega) ⟨rfl, rfl, rfl⟩
  · rw [nI_0] at h
    exact h
  · refine r_run okX12_takes 23 (cs := [vp_in y 8, vp_in 3 9, vp_in y 8, vp_in 4 9]) (σ' := (170, [some (.ref 100), some (.int y), none, none], [.int ((1 : Int32) <<< (y &&& 31)), .ref 100, .int 5, .ref 134], (SS b c), (upI (upI (mH I g) 134 ((3 : Int32).toNatClampNeg) ((mH I g) 136 y.toNatClampNeg)) 134 ((4 : Int32).toNatClampNeg) ((mH I g) 137 y.toNatClampNeg)), J, 0, 0)) rfl ⟨vy, (by unfold vp_in; decide), vy, (by unfold vp_in; decide), trivial⟩ ?_
    simp only [z3, z4, cy0]
    show Rj _ _ _ _ _ _ (170, [some (.ref 100), some (.int y), none, none], [.int ((1 : Int32) <<< (y &&& 31)), .ref 100, .int 5, .ref 134], (SS b c), (upI (upI (mH I g) 134 3 ((mH I g) 136 (nv y))) 134 4 ((mH I g) 137 (nv y))), J, 0, 0)
    refine r_callV okX12_takes okX12_peopleOf [.int ((1 : Int32) <<< (y &&& 31))] [.int 5, .ref 134] 100 rfl rfl rfl kkX12_peopleOf rfl rfl (by decide) rfl rfl rfl (by decide) ⟨Nat.le_refl _, Nat.le_refl _⟩ (Nat.le_of_ble_eq_true rfl) (c_peopleOfE γ (I := I) (I' := (upI (upI (mH I g) 134 3 ((mH I g) 136 (nv y))) 134 4 ((mH I g) 137 (nv y)))) rfl rfl ((1 : Int32) <<< (y &&& 31))) (fun v1 S1 I1 J1 hp => ?_)
    obtain ⟨rfl, rfl, rfl, rfl⟩ := hp
    show Rj _ _ _ _ _ _ (173, [some (.ref 100), some (.int y), none, none], [.int (pplN I ((1 : Int32) <<< (y &&& 31)) 96), .int 5, .ref 134], (SS b c), (upI (upI (mH I g) 134 3 ((mH I g) 136 (nv y))) 134 4 ((mH I g) 137 (nv y))), J, 0, 0)
    refine r_run okX12_takes 5 (cs := [vp_in 5 9]) (σ' := (180, [some (.ref 100), some (.int y), none, none], [.int ((mH I g) 100 5), .int y, .ref 100], (SS b c), (upI (upI (upI (mH I g) 134 3 ((mH I g) 136 (nv y))) 134 4 ((mH I g) 137 (nv y))) 134 ((5 : Int32).toNatClampNeg) (pplN I ((1 : Int32) <<< (y &&& 31)) 96)), J, 0, 0)) rfl ⟨(by unfold vp_in; decide), trivial⟩ ?_
    simp only [z5]
    show Rj _ _ _ _ _ _ (180, [some (.ref 100), some (.int y), none, none], [.int ((mH I g) 100 5), .int y, .ref 100], (SS b c), (upI (upI (upI (mH I g) 134 3 ((mH I g) 136 (nv y))) 134 4 ((mH I g) 137 (nv y))) 134 5 (pplN I ((1 : Int32) <<< (y &&& 31)) 96)), J, 0, 0)
    refine r_callV okX12_takes okX12_thereAt [.int y, .int ((mH I g) 100 5)] [] 100 rfl rfl rfl kkX12_thereAt rfl rfl (by decide) rfl rfl rfl (by decide) ⟨Nat.le_refl _, Nat.le_refl _⟩ (Nat.le_of_ble_eq_true rfl) (c_thereAtE γ (I := I) (I' := (upI (upI (upI (mH I g) 134 3 ((mH I g) 136 (nv y))) 134 4 ((mH I g) 137 (nv y))) 134 5 (pplN I ((1 : Int32) <<< (y &&& 31)) 96))) rfl rfl rfl rfl hW (y := y) (t := I 100 5) (by rw [he]; try rfl)) (fun v1 S1 I1 J1 hp => ?_)
    obtain ⟨rfl, rfl, rfl, rfl⟩ := hp
    show Rj _ _ _ _ _ _ (183, [some (.ref 100), some (.int y), none, none], [.int (nI w)], (SS b c), (upI (upI (upI (mH I g) 134 3 ((mH I g) 136 (nv y))) 134 4 ((mH I g) 137 (nv y))) 134 5 (pplN I ((1 : Int32) <<< (y &&& 31)) 96)), J, 0, 0)
    refine r_run okX12_takes 6 (cs := []) (σ' := (192, [some (.ref 100), some (.int y), some (.int (nI w)), none], [.int (-1), .int (nI w), .int 6, .ref 134], (SS b c), (upI (upI (upI (mH I g) 134 3 ((mH I g) 136 (nv y))) 134 4 ((mH I g) 137 (nv y))) 134 5 (pplN I ((1 : Int32) <<< (y &&& 31)) 96)), J, 0, 0)) rfl trivial ?_
    refine r_icmp okX12_takes rfl (fun (h192 : ¬ (nI w) = ((-1) : Int32)) => ?_) (fun h1920 => ?_)
    · refine r_run okX12_takes 24 (cs := [vp_in (nI w) 200, vp_in 6 9, vp_in y 8, vp_in 7 9, ¬ (60 : Int32) = 0, vp_in 8 9]) (σ' := (238, [some (.ref 100), some (.int y), some (.int (nI w)), none], [], (SS b c), (upI (upI (upI (upI (upI (upI (mH I g) 134 3 ((mH I g) 136 (nv y))) 134 4 ((mH I g) 137 (nv y))) 134 5 (pplN I ((1 : Int32) <<< (y &&& 31)) 96)) 134 ((6 : Int32).toNatClampNeg) (((mH I g) 129 ((nI w).toNatClampNeg)) - ((mH I g) 100 5))) 134 ((7 : Int32).toNatClampNeg) ((mH I g) 133 y.toNatClampNeg)) 134 ((8 : Int32).toNatClampNeg) (((mH I g) 100 5) / 60)), J, 0, 0)) rfl ⟨vw, (by unfold vp_in; decide), vy, (by unfold vp_in; decide), (by decide), (by unfold vp_in; decide), trivial⟩ ?_
      simp only [z6, z7, z8, cw, cy0]
      show Rj _ _ _ _ _ _ (238, [some (.ref 100), some (.int y), some (.int (nI w)), none], [], (SS b c), (upI (upI (upI (upI (upI (upI (mH I g) 134 3 ((mH I g) 136 (nv y))) 134 4 ((mH I g) 137 (nv y))) 134 5 (pplN I ((1 : Int32) <<< (y &&& 31)) 96)) 134 6 (((mH I g) 129 w) - ((mH I g) 100 5))) 134 7 ((mH I g) 133 (nv y))) 134 8 (((mH I g) 100 5) / 60)), J, 0, 0)
      refine r_vret okX12_takes rfl rfl (Nat.le_refl _) (Nat.le_refl _) ?_
      refine ⟨rfl, rfl, ?_, rfl⟩
      simp only [mH_u]
      refine ⟨_, rfl, fun q hq => ?_⟩
      rcases (show q = 0 ∨ q = 1 ∨ q = 2 ∨ q = 3 ∨ q = 4 ∨ q = 5 ∨ q = 6 ∨ q = 7 ∨ q = 8 by omega) with rfl | rfl | rfl | rfl | rfl | rfl | rfl | rfl | rfl
      · show _ = nI (cnt (tkB I y 0) (nv (I 100 13))); rw [em, nv_nI (by omega)]; exact hi.1
      · show _ = nI (cnt (tkB I y 1) (nv (I 100 13))); rw [em, nv_nI (by omega)]; exact hi.2.1
      · show _ = nI (cnt (tkB I y 2) (nv (I 100 13))); rw [em, nv_nI (by omega)]; exact hi.2.2
      · rfl
      · rfl
      · rfl
      · show _ = takV I y 6; unfold takV; rw [he]; rfl
      · rfl
      · rfl
    · have h192 : (nI w) = ((-1) : Int32) := Classical.not_not.mp h1920
      exact absurd h192 (nI_m1 (by omega))
theorem c_takes (γ : GE) {b c : Bool} {I : AI} {J : AJ} (hT : MTel I) (hW : rg 201 (I 100 45)) (y : Int32) (hy : ctyB y = true) : Ct γ mX12_takes 1 0 0 [.ref 100, .int y] (SS b c) I J (fun r S' I' J' => none = r ∧ (SS b c) = S' ∧ (∃ g, I' = mH I g ∧ ∀ q, q < 9 → g q = takV I y q) ∧ J = J') := by
  have h : Ct γ mX12_takes 1 0 0 [.ref 100, .int y] (SS b c) (mH I (I 134)) J (fun r S' I' J' => none = r ∧ (SS b c) = S' ∧ (∃ g, I' = mH I g ∧ ∀ q, q < 9 → g q = takV I y q) ∧ J = J') := by
    cases he : thr I y (I 100 5) with
    | none => exact c_takesN γ hT hW y hy he
    | some w => exact c_takesS γ hT hW y hy w he
  rw [mH_self] at h
  exact h
def twoV (q x y : Int32) : Int32 := if q = 2 then x + y else if q = 3 then x - y else if q = 4 then x * y else if q = 5 then x / y else if q = 6 then (if x < y then 1 else 0) else if q = 7 then (if x = y then 1 else 0) else if q = 8 then (if y < x then 1 else 0) else if q = 10 then x * y else (if 0 < x + y then 1 else 0)
theorem c_twoOf (γ : GE) {S : List Sh} {I : AI} {J : AJ} {a : Nat} (q x y : Int32) (h5 : q = 5 → ¬ y = 0) : Ct γ mX12_twoOf 0 0 0 [.ref a, .int q, .int x, .int y] S I J (rI (twoV q x y) S I J) := by
  refine ct_of okX12_twoOf (L := [some (.ref a), some (.int q), some (.int x), some (.int y)]) (Nat.le_of_ble_eq_true rfl) rfl ?_
  refine r_run okX12_twoOf 2 (cs := []) (σ' := (2, [some (.ref a), some (.int q), some (.int x), some (.int y)], [.int 2, .int q], S, I, J, 0, 0)) rfl trivial ?_
  refine r_icmp okX12_twoOf rfl (fun (h2 : ¬ q = (2 : Int32)) => ?_) (fun h20 => ?_)
  · refine r_run okX12_twoOf 2 (cs := []) (σ' := (11, [some (.ref a), some (.int q), some (.int x), some (.int y)], [.int 3, .int q], S, I, J, 0, 0)) rfl trivial ?_
    refine r_icmp okX12_twoOf rfl (fun (h11 : ¬ q = (3 : Int32)) => ?_) (fun h110 => ?_)
    · refine r_run okX12_twoOf 2 (cs := []) (σ' := (20, [some (.ref a), some (.int q), some (.int x), some (.int y)], [.int 4, .int q], S, I, J, 0, 0)) rfl trivial ?_
      refine r_icmp okX12_twoOf rfl (fun (h20 : ¬ q = (4 : Int32)) => ?_) (fun h200 => ?_)
      · refine r_run okX12_twoOf 2 (cs := []) (σ' := (29, [some (.ref a), some (.int q), some (.int x), some (.int y)], [.int 5, .int q], S, I, J, 0, 0)) rfl trivial ?_
        refine r_icmp okX12_twoOf rfl (fun (h29 : ¬ q = (5 : Int32)) => ?_) (fun h290 => ?_)
        · refine r_run okX12_twoOf 2 (cs := []) (σ' := (39, [some (.ref a), some (.int q), some (.int x), some (.int y)], [.int 6, .int q], S, I, J, 0, 0)) rfl trivial ?_
          refine r_icmp okX12_twoOf rfl (fun (h39 : ¬ q = (6 : Int32)) => ?_) (fun h390 => ?_)
          · refine r_run okX12_twoOf 2 (cs := []) (σ' := (56, [some (.ref a), some (.int q), some (.int x), some (.int y)], [.int 7, .int q], S, I, J, 0, 0)) rfl trivial ?_
            refine r_icmp okX12_twoOf rfl (fun (h56 : ¬ q = (7 : Int32)) => ?_) (fun h560 => ?_)
            · refine r_run okX12_twoOf 2 (cs := []) (σ' := (73, [some (.ref a), some (.int q), some (.int x), some (.int y)], [.int 8, .int q], S, I, J, 0, 0)) rfl trivial ?_
              refine r_icmp okX12_twoOf rfl (fun (h73 : ¬ q = (8 : Int32)) => ?_) (fun h730 => ?_)
              · refine r_run okX12_twoOf 2 (cs := []) (σ' := (90, [some (.ref a), some (.int q), some (.int x), some (.int y)], [.int 10, .int q], S, I, J, 0, 0)) rfl trivial ?_
                refine r_icmp okX12_twoOf rfl (fun (h90 : ¬ q = (10 : Int32)) => ?_) (fun h900 => ?_)
                · refine r_run okX12_twoOf 3 (cs := []) (σ' := (102, [some (.ref a), some (.int q), some (.int x), some (.int y)], [.int (x + y)], S, I, J, 0, 0)) rfl trivial ?_
                  refine r_ifc okX12_twoOf rfl (fun (h102 : (x + y) ≤ (0 : Int32)) => ?_) (fun (h102 : ¬ (x + y) ≤ (0 : Int32)) => ?_)
                  · have h102a := Int32.not_lt.mpr h102
                    refine r_run okX12_twoOf 1 (cs := []) (σ' := (110, [some (.ref a), some (.int q), some (.int x), some (.int y)], [.int 0], S, I, J, 0, 0)) rfl trivial ?_
                    refine r_iret okX12_twoOf rfl rfl rfl (Nat.le_refl _) (Nat.le_refl _) ?_
                    refine ⟨congrArg (fun z => some (Value.int z)) ?_, rfl, rfl, rfl⟩
                    unfold twoV
                    simp only [*, if_true, if_false]
                    try rfl
                  · have h102a := Int32.not_le.mp h102
                    refine r_run okX12_twoOf 2 (cs := []) (σ' := (110, [some (.ref a), some (.int q), some (.int x), some (.int y)], [.int 1], S, I, J, 0, 0)) rfl trivial ?_
                    refine r_iret okX12_twoOf rfl rfl rfl (Nat.le_refl _) (Nat.le_refl _) ?_
                    refine ⟨congrArg (fun z => some (Value.int z)) ?_, rfl, rfl, rfl⟩
                    unfold twoV
                    simp only [*, if_true, if_false]
                    try rfl
                · have h90 : q = (10 : Int32) := Classical.not_not.mp h900
                  refine r_run okX12_twoOf 4 (cs := []) (σ' := (110, [some (.ref a), some (.int q), some (.int x), some (.int y)], [.int (x * y)], S, I, J, 0, 0)) rfl trivial ?_
                  refine r_iret okX12_twoOf rfl rfl rfl (Nat.le_refl _) (Nat.le_refl _) ?_
                  refine ⟨congrArg (fun z => some (Value.int z)) ?_, rfl, rfl, rfl⟩
                  unfold twoV
                  simp only [*, if_true, if_false]
                  try rfl
              · have h73 : q = (8 : Int32) := Classical.not_not.mp h730
                refine r_run okX12_twoOf 2 (cs := []) (σ' := (78, [some (.ref a), some (.int q), some (.int x), some (.int y)], [.int y, .int x], S, I, J, 0, 0)) rfl trivial ?_
                refine r_icmp okX12_twoOf rfl (fun (h78 : x ≤ y) => ?_) (fun (h78 : ¬ x ≤ y) => ?_)
                · have h78a := Int32.not_lt.mpr h78
                  refine r_run okX12_twoOf 1 (cs := []) (σ' := (86, [some (.ref a), some (.int q), some (.int x), some (.int y)], [.int 0], S, I, J, 0, 0)) rfl trivial ?_
                  refine r_iret okX12_twoOf rfl rfl rfl (Nat.le_refl _) (Nat.le_refl _) ?_
                  refine ⟨congrArg (fun z => some (Value.int z)) ?_, rfl, rfl, rfl⟩
                  unfold twoV
                  simp only [*, if_true, if_false]
                  try rfl
                · have h78a := Int32.not_le.mp h78
                  refine r_run okX12_twoOf 2 (cs := []) (σ' := (86, [some (.ref a), some (.int q), some (.int x), some (.int y)], [.int 1], S, I, J, 0, 0)) rfl trivial ?_
                  refine r_iret okX12_twoOf rfl rfl rfl (Nat.le_refl _) (Nat.le_refl _) ?_
                  refine ⟨congrArg (fun z => some (Value.int z)) ?_, rfl, rfl, rfl⟩
                  unfold twoV
                  simp only [*, if_true, if_false]
                  try rfl
            · have h56 : q = (7 : Int32) := Classical.not_not.mp h560
              refine r_run okX12_twoOf 2 (cs := []) (σ' := (61, [some (.ref a), some (.int q), some (.int x), some (.int y)], [.int y, .int x], S, I, J, 0, 0)) rfl trivial ?_
              refine r_icmp okX12_twoOf rfl (fun (h61 : ¬ x = y) => ?_) (fun h610 => ?_)
              · refine r_run okX12_twoOf 1 (cs := []) (σ' := (69, [some (.ref a), some (.int q), some (.int x), some (.int y)], [.int 0], S, I, J, 0, 0)) rfl trivial ?_
                refine r_iret okX12_twoOf rfl rfl rfl (Nat.le_refl _) (Nat.le_refl _) ?_
                refine ⟨congrArg (fun z => some (Value.int z)) ?_, rfl, rfl, rfl⟩
                unfold twoV
                simp only [*, if_true, if_false]
                try rfl
              · have h61 : x = y := Classical.not_not.mp h610
                refine r_run okX12_twoOf 2 (cs := []) (σ' := (69, [some (.ref a), some (.int q), some (.int x), some (.int y)], [.int 1], S, I, J, 0, 0)) rfl trivial ?_
                refine r_iret okX12_twoOf rfl rfl rfl (Nat.le_refl _) (Nat.le_refl _) ?_
                refine ⟨congrArg (fun z => some (Value.int z)) ?_, rfl, rfl, rfl⟩
                unfold twoV
                simp only [*, if_true, if_false]
                try rfl
          · have h39 : q = (6 : Int32) := Classical.not_not.mp h390
            refine r_run okX12_twoOf 2 (cs := []) (σ' := (44, [some (.ref a), some (.int q), some (.int x), some (.int y)], [.int y, .int x], S, I, J, 0, 0)) rfl trivial ?_
            refine r_icmp okX12_twoOf rfl (fun (h44 : y ≤ x) => ?_) (fun (h44 : ¬ y ≤ x) => ?_)
            · have h44a := Int32.not_lt.mpr h44
              refine r_run okX12_twoOf 1 (cs := []) (σ' := (52, [some (.ref a), some (.int q), some (.int x), some (.int y)], [.int 0], S, I, J, 0, 0)) rfl trivial ?_
              refine r_iret okX12_twoOf rfl rfl rfl (Nat.le_refl _) (Nat.le_refl _) ?_
              refine ⟨congrArg (fun z => some (Value.int z)) ?_, rfl, rfl, rfl⟩
              unfold twoV
              simp only [*, if_true, if_false]
              try rfl
            · have h44a := Int32.not_le.mp h44
              refine r_run okX12_twoOf 2 (cs := []) (σ' := (52, [some (.ref a), some (.int q), some (.int x), some (.int y)], [.int 1], S, I, J, 0, 0)) rfl trivial ?_
              refine r_iret okX12_twoOf rfl rfl rfl (Nat.le_refl _) (Nat.le_refl _) ?_
              refine ⟨congrArg (fun z => some (Value.int z)) ?_, rfl, rfl, rfl⟩
              unfold twoV
              simp only [*, if_true, if_false]
              try rfl
        · have h29 : q = (5 : Int32) := Classical.not_not.mp h290
          refine r_run okX12_twoOf 3 (cs := [¬ y = 0]) (σ' := (35, [some (.ref a), some (.int q), some (.int x), some (.int y)], [.int (x / y)], S, I, J, 0, 0)) rfl ⟨(h5 h29), trivial⟩ ?_
          refine r_iret okX12_twoOf rfl rfl rfl (Nat.le_refl _) (Nat.le_refl _) ?_
          refine ⟨congrArg (fun z => some (Value.int z)) ?_, rfl, rfl, rfl⟩
          unfold twoV
          simp only [*, if_true, if_false]
          try rfl
      · have h20 : q = (4 : Int32) := Classical.not_not.mp h200
        refine r_run okX12_twoOf 3 (cs := []) (σ' := (26, [some (.ref a), some (.int q), some (.int x), some (.int y)], [.int (x * y)], S, I, J, 0, 0)) rfl trivial ?_
        refine r_iret okX12_twoOf rfl rfl rfl (Nat.le_refl _) (Nat.le_refl _) ?_
        refine ⟨congrArg (fun z => some (Value.int z)) ?_, rfl, rfl, rfl⟩
        unfold twoV
        simp only [*, if_true, if_false]
        try rfl
    · have h11 : q = (3 : Int32) := Classical.not_not.mp h110
      refine r_run okX12_twoOf 3 (cs := []) (σ' := (17, [some (.ref a), some (.int q), some (.int x), some (.int y)], [.int (x - y)], S, I, J, 0, 0)) rfl trivial ?_
      refine r_iret okX12_twoOf rfl rfl rfl (Nat.le_refl _) (Nat.le_refl _) ?_
      refine ⟨congrArg (fun z => some (Value.int z)) ?_, rfl, rfl, rfl⟩
      unfold twoV
      simp only [*, if_true, if_false]
      try rfl
  · have h2 : q = (2 : Int32) := Classical.not_not.mp h20
    refine r_run okX12_twoOf 3 (cs := []) (σ' := (8, [some (.ref a), some (.int q), some (.int x), some (.int y)], [.int (x + y)], S, I, J, 0, 0)) rfl trivial ?_
    refine r_iret okX12_twoOf rfl rfl rfl (Nat.le_refl _) (Nat.le_refl _) ?_
    refine ⟨congrArg (fun z => some (Value.int z)) ?_, rfl, rfl, rfl⟩
    unfold twoV
    simp only [*, if_true, if_false]
    try rfl
