/-! ===== rules as a list of lines; the reference: lineOf ===== -/
theorem mKS_2 {I : AI} {g g1 : Nat → Int32} : mKS (mKS I g) g1 = mKS I g1 := by funext a; simp only [mKS]; split <;> rfl
theorem inB_rg {n : Nat} {x : Int32} (hn : n < 2 ^ 31) (h : inB x 0 (nI n) = true) : rg (n + 1) x := by
  have h1 := inB_t.mp h
  obtain ⟨k, rfl, hk⟩ := nI_ofx h1.1
  exact ⟨k, Nat.lt_succ_of_le (Nat.le_of_not_lt fun q => absurd h1.2 (nI_ge q hk)), rfl⟩
theorem inB_rg8 {x : Int32} (h : inB x 0 8 = true) : rg 9 x := by
  exact inB_rg (n := 8) (by decide) h
/-- a word of a rule's code; kind 5 divides by its own number -/
abbrev Cd : Type := List (Int32 × Int32)
def flt : Cd → List (Int32 × Int32)
  | [] => []
  | p :: c => if p.1 = 5 then (0, p.2) :: (5, 0) :: flt c else p :: flt c
def aDiv (n : Int32) : List Int32 → List Int32
  | x :: s => (x / n) :: s
  | s => s
def aStp (h : Nat → Int32) (p : Int32 × Int32) (st : List Int32) : List Int32 := if p.1 = 5 then aDiv p.2 st else mStp h p st
def evC (h : Nat → Int32) : Cd → List Int32 → List Int32
  | [], st => st
  | p :: c, st => evC h c (aStp h p st)
def isN1 (q : Int32) : Bool := decide (q = 2) || decide (q = 3) || decide (q = 4)
def isC1 (q : Int32) : Bool := decide (q = 6) || decide (q = 7) || decide (q = 8)
def isB1 (q : Int32) : Bool := decide (q = 10) || decide (q = 11)
/-- the kinds of what lies on the stack: true a condition, false a number -/
def tyS (p : Int32 × Int32) (t : List Bool) : Option (List Bool) :=
  if p.1 = 0 then some (false :: t)
  else if p.1 = 1 then (if inB p.2 0 8 then some (false :: t) else none)
  else if p.1 = 5 then (match t with | false :: t => if inB p.2 1 9999 then some (false :: t) else none | _ => none)
  else if p.1 = 9 then (match t with | true :: t => some (true :: t) | _ => none)
  else if isN1 p.1 then (match t with | false :: false :: t => some (false :: t) | _ => none)
  else if isC1 p.1 then (match t with | false :: false :: t => some (true :: t) | _ => none)
  else if isB1 p.1 then (match t with | true :: true :: t => some (true :: t) | _ => none)
  else none
def tyCd : Cd → List Bool → Option (List Bool)
  | [], t => some t
  | p :: c, t => match tyS p t with
    | none => none
    | some t1 => if t1.length ≤ 32 then tyCd c t1 else none
theorem tyS_len {h : Nat → Int32} {p : Int32 × Int32} {t t1 : List Bool} {st : List Int32} (ht : tyS p t = some t1) (hs : st.length = t.length) : (aStp h p st).length = t1.length ∧ (p.1 = 0 ∨ (p.1 = 1 ∧ rg 9 p.2) ∨ (p.1 = 5 ∧ 1 ≤ st.length ∧ ¬ p.2 = 0) ∨ (p.1 = 9 ∧ 1 ≤ st.length) ∨ (¬ p.1 = 0 ∧ ¬ p.1 = 1 ∧ ¬ p.1 = 5 ∧ ¬ p.1 = 9 ∧ 2 ≤ st.length)) := by
  unfold tyS at ht
  unfold aStp mStp
  by_cases h0 : p.1 = 0
  · rw [if_pos h0] at ht
    cases ht
    rw [if_neg (by rw [h0]; decide), if_pos h0]
    exact ⟨by simp [hs], Or.inl h0⟩
  rw [if_neg h0] at ht
  by_cases h1 : p.1 = 1
  · rw [if_pos h1] at ht
    by_cases h2 : inB p.2 0 8 = true
    · rw [if_pos h2] at ht
      cases ht
      rw [if_neg (by rw [h1]; decide), if_neg h0, if_pos h1]
      exact ⟨by simp [hs], Or.inr (Or.inl ⟨h1, inB_rg8 h2⟩)⟩
    · rw [if_neg h2] at ht; cases ht
  rw [if_neg h1] at ht
  by_cases h5 : p.1 = 5
  · rw [if_pos h5] at ht
    match t, st, hs with
    | false :: t, x :: s, hs =>
      by_cases h2 : inB p.2 1 9999 = true
      · simp only [h2, if_true] at ht
        cases ht
        rw [if_pos h5]
        exact ⟨by simpa [aDiv] using hs, Or.inr (Or.inr (Or.inl ⟨h5, by simp, fun q => absurd h2 (by rw [q]; decide)⟩))⟩
      · simp only [h2] at ht; cases ht
  rw [if_neg h5] at ht ⊢
  by_cases h9 : p.1 = 9
  · rw [if_pos h9] at ht
    match t, st, hs with
    | true :: t, x :: s, hs =>
      cases ht
      rw [if_neg h0, if_neg h1, if_pos h9]
      exact ⟨by simpa [mNot] using hs, Or.inr (Or.inr (Or.inr (Or.inl ⟨h9, by simp⟩)))⟩
  rw [if_neg h9] at ht
  rw [if_neg h0, if_neg h1, if_neg h9]
  have fin : ∀ (a b : Bool) (t2 : List Bool), t = a :: b :: t2 → t1.length = t2.length + 1 → (mTwo p.1 st).length = t1.length ∧ 2 ≤ st.length := by
    intro a b t2 e1 e2
    subst e1
    match st, hs with
    | y :: x :: s, hs => exact ⟨by rw [e2]; simp [mTwo]; simpa using hs, by simp⟩
  have goal : (mTwo p.1 st).length = t1.length ∧ 2 ≤ st.length := by
    by_cases q1 : isN1 p.1 = true
    · rw [if_pos q1] at ht
      match t, ht with
      | false :: false :: t, ht => cases ht; exact fin _ _ t rfl rfl
    rw [if_neg q1] at ht
    by_cases q2 : isC1 p.1 = true
    · rw [if_pos q2] at ht
      match t, ht with
      | false :: false :: t, ht => cases ht; exact fin _ _ t rfl rfl
    rw [if_neg q2] at ht
    by_cases q3 : isB1 p.1 = true
    · rw [if_pos q3] at ht
      match t, ht with
      | true :: true :: t, ht => cases ht; exact fin _ _ t rfl rfl
    rw [if_neg q3] at ht
    cases ht
  exact ⟨goal.1, Or.inr (Or.inr (Or.inr (Or.inr ⟨h0, h1, h5, h9, goal.2⟩)))⟩
theorem tyCd_go {h : Nat → Int32} : ∀ {c : Cd} {t t1 : List Bool} {st : List Int32} {l : List (Int32 × Int32)} {v : Int32}, tyCd c t = some t1 → st.length = t.length → t.length ≤ 32 → (evC h c st).length = t1.length ∧ (mGo h l (evC h c st) v → mGo h (flt c ++ l) st v)
  | [], t, t1, st, l, v, ht, hs, _ => by cases ht; exact ⟨hs, fun q => q⟩
  | p :: c, t, t1, st, l, v, ht, hs, h32 => by
    unfold tyCd at ht
    cases e : tyS p t with
    | none => rw [e] at ht; cases ht
    | some t2 =>
      rw [e] at ht
      by_cases hl : t2.length ≤ 32
      · simp only [hl, if_true] at ht
        have h1 := tyS_len (h := h) e hs
        have h2 := tyCd_go (h := h) (l := l) (v := v) ht h1.1 hl
        refine ⟨h2.1, fun q => ?_⟩
        have h3 := h2.2 q
        unfold flt
        rcases h1.2 with p0 | ⟨p1, pr⟩ | ⟨p5, pl, pn⟩ | ⟨p9, pl⟩ | ⟨p0, p1, p5, p9, pl⟩
        · rw [if_neg (by rw [p0]; decide)]
          refine ⟨by unfold mOk; rw [if_pos p0]; omega, ?_⟩
          unfold aStp at h3; rw [if_neg (by rw [p0]; decide)] at h3; exact h3
        · rw [if_neg (by rw [p1]; decide)]
          refine ⟨by unfold mOk; rw [if_neg (by rw [p1]; decide), if_pos p1]; exact ⟨by omega, pr⟩, ?_⟩
          unfold aStp at h3; rw [if_neg (by rw [p1]; decide)] at h3; exact h3
        · rw [if_pos p5]
          refine ⟨?_, ?_, ?_⟩
          · show (if (0 : Int32) = 0 then st.length < 60 else _); rw [if_pos rfl]; omega
          · show (if (5 : Int32) = 0 then _ else if (5 : Int32) = 1 then _ else if (5 : Int32) = 9 then _ else _)
            rw [if_neg (by decide), if_neg (by decide), if_neg (by decide)]
            refine ⟨?_, fun _ y s q => ?_⟩
            · show 2 ≤ (p.2 :: st).length; simp; omega
            · have q2 : p.2 :: st = y :: s := q
              injection q2 with q3 _; rw [← q3]; exact pn
          · unfold aStp at h3; rw [if_pos p5] at h3
            match st, pl with
            | x :: s, _ => exact h3
        · rw [if_neg (by rw [p9]; decide)]
          refine ⟨by unfold mOk; rw [if_neg (by rw [p9]; decide), if_neg (by rw [p9]; decide), if_pos p9]; exact pl, ?_⟩
          unfold aStp at h3; rw [if_neg (by rw [p9]; decide)] at h3; exact h3
        · rw [if_neg p5]
          refine ⟨by unfold mOk; rw [if_neg p0, if_neg p1, if_neg p9]; exact ⟨pl, fun q => absurd q p5⟩, ?_⟩
          unfold aStp at h3; rw [if_neg p5] at h3; exact h3
      · simp only [hl, if_false] at ht; cases ht
def valC (h : Nat → Int32) (c : Cd) : Int32 := (evC h c []).headD 0
theorem tyCd_val {h : Nat → Int32} {c : Cd} {z : Bool} (ht : tyCd c [] = some [z]) : evC h c [] = [valC h c] ∧ mGo h (flt c) [] (valC h c) := by
  have h1 := tyCd_go (h := h) (l := []) (v := valC h c) (st := []) ht rfl (by decide)
  have e : evC h c [] = [valC h c] := by
    unfold valC
    match evC h c [], h1.1 with
    | [x], _ => rfl
  refine ⟨e, ?_⟩
  have h2 := h1.2 (by rw [e]; rfl)
  rw [List.append_nil] at h2
  exact h2
theorem aStp_e {h h' : Nat → Int32} (hh : ∀ q, q < 9 → h q = h' q) {p : Int32 × Int32} {t t1 : List Bool} {st : List Int32} (ht : tyS p t = some t1) (hs : st.length = t.length) : aStp h p st = aStp h' p st := by
  rcases (tyS_len (h := h) ht hs).2 with p0 | ⟨p1, q, hq, eq⟩ | ⟨p5, pl, pn⟩ | ⟨p9, pl⟩ | ⟨p0, p1, p5, p9, pl⟩
  · unfold aStp mStp; simp [p0]
  · unfold aStp mStp; simp only [p1, eq]; rw [nv_nI (by omega), hh q hq]
  · unfold aStp; simp [p5]
  · unfold aStp mStp; simp [p9]
  · unfold aStp mStp; simp [p0, p1, p5, p9]
theorem evC_e {h h' : Nat → Int32} (hh : ∀ q, q < 9 → h q = h' q) : ∀ {c : Cd} {t t1 : List Bool} {st : List Int32}, tyCd c t = some t1 → st.length = t.length → evC h c st = evC h' c st
  | [], t, t1, st, ht, hs => rfl
  | p :: c, t, t1, st, ht, hs => by
    unfold tyCd at ht
    cases e : tyS p t with
    | none => rw [e] at ht; cases ht
    | some t2 =>
      rw [e] at ht
      by_cases hl : t2.length ≤ 32
      · simp only [hl, if_true] at ht
        unfold evC
        rw [aStp_e hh e hs]
        exact evC_e hh ht (tyS_len e hs).1
      · simp only [hl, if_false] at ht; cases ht
theorem valC_e {h h' : Nat → Int32} (hh : ∀ q, q < 9 → h q = h' q) {c : Cd} {t1 : List Bool} (ht : tyCd c [] = some t1) : valC h c = valC h' c := by
  unfold valC; rw [evC_e hh ht rfl]
/-- a line: what it does, its minutes, its condition -/
abbrev Ln : Type := Int32 × Cd × Cd
def lnOK (q : Ln) : Prop := rg 3 q.1 ∧ (q.1 = 0 → tyCd q.2.1 [] = some [false]) ∧ tyCd q.2.2 [] = some [true]
def MLn (I : AI) (k : Nat) (q : Ln) : Prop := ∃ f w e : Nat, f + (flt q.2.1).length = w ∧ w + (flt q.2.2).length = e ∧ e ≤ 900 ∧ I 120 k = q.1 ∧ I 121 k = nI f ∧ I 122 k = nI w ∧ I 123 k = nI e ∧ cdA I f (flt q.2.1) ∧ cdA I w (flt q.2.2)
def MRul (I : AI) (ls : List Ln) : Prop := ls.length ≤ 16 ∧ I 100 29 = nI ls.length ∧ ∀ k q, ls[k]? = some q → MLn I k q ∧ lnOK q
def lnN (h : Nat → Int32) : List Ln → Nat → Option Nat
  | [], _ => none
  | q :: l, k => if valC h q.2.2 = 0 then lnN h l (k + 1) else some k
theorem lnN_e {h h' : Nat → Int32} (hh : ∀ q, q < 9 → h q = h' q) : ∀ {ls : List Ln} {k : Nat}, (∀ q ∈ ls, lnOK q) → lnN h ls k = lnN h' ls k
  | [], _, _ => rfl
  | q :: l, k, hl => by
    unfold lnN
    rw [valC_e hh (hl q (by simp)).2.2, lnN_e hh (fun q hq => hl q (by simp [hq]))]
theorem lnN_lt {h : Nat → Int32} : ∀ {ls : List Ln} {k j : Nat}, lnN h ls k = some j → k ≤ j ∧ j < k + ls.length
  | [], k, j, hj => by cases hj
  | q :: l, k, j, hj => by
    unfold lnN at hj
    split at hj
    · have := lnN_lt hj; simp; omega
    · cases hj; simp
theorem cdA_k {I I' : AI} (h1 : I' 124 = I 124) (h2 : I' 125 = I 125) : ∀ {l : List (Int32 × Int32)} {k : Nat}, cdA I k l → cdA I' k l
  | [], _, _ => trivial
  | p :: l, k, h => ⟨by rw [h1]; exact h.1, by rw [h2]; exact h.2.1, cdA_k h1 h2 h.2.2⟩
theorem lp_ln (γ : GE) {b c : Bool} {I : AI} {J : AJ} (ls : List Ln) (hR : MRul I ls) : ∀ (l : List Ln) (k : Nat) (g : Nat → Int32), k + l.length = ls.length → ls.drop k = l → lnN (I 134) ls 0 = lnN (I 134) l k → Rj γ mX12_lineOf 2 0 0 (fun r S' I' J' => some (.int (bsI (lnN (I 134) ls 0))) = r ∧ (SS b c) = S' ∧ (∃ g, I' = mKS I g) ∧ J = J') (2, [some (.ref 100), some (.int (nI k))], [], (SS b c), (mKS I g), J, 0, 0) := by
  have h16 := hR.1
  intro l
  induction l with
  | nil =>
    intro k g hk hd hl
    refine r_run okX12_lineOf 3 (cs := []) (σ' := (7, [some (.ref 100), some (.int (nI k))], [.int ((mKS I g) 100 29), .int (nI k)], (SS b c), (mKS I g), J, 0, 0)) rfl trivial ?_
    refine r_icmp okX12_lineOf rfl (fun (h7 : ((mKS I g) 100 29) ≤ (nI k)) => ?_) (fun (h7 : ¬ ((mKS I g) 100 29) ≤ (nI k)) => ?_)
    · refine r_run okX12_lineOf 1 (cs := []) (σ' := (38, [some (.ref 100), some (.int (nI k))], [.int (-1)], (SS b c), (mKS I g), J, 0, 0)) rfl trivial ?_
      refine r_iret okX12_lineOf rfl rfl rfl (Nat.le_refl _) (Nat.le_refl _) ?_
      refine ⟨?_, rfl, ⟨g, rfl⟩, rfl⟩
      rw [hl]; rfl
    · exact absurd (by show I 100 29 ≤ _; rw [hR.2.1]; exact nI_le (by simp at hk; omega) (by omega)) h7
  | cons q l ih =>
    intro k g hk hd hl
    have hk2 : k < ls.length := by simp at hk; omega
    have ck : (nI k).toNatClampNeg = k := nI_clamp (by omega)
    have hq : ls[k]? = some q := by have h := congrArg (fun z => z[0]?) hd; simpa using h
    obtain ⟨⟨f, w0, e, hfw, hwe, he, -, -, ew, ee, -, hcw⟩, hok⟩ := hR.2.2 k q hq
    replace ew : mKS I g 122 k = nI w0 := ew
    replace ee : mKS I g 123 k = nI e := ee
    refine r_run okX12_lineOf 3 (cs := []) (σ' := (7, [some (.ref 100), some (.int (nI k))], [.int ((mKS I g) 100 29), .int (nI k)], (SS b c), (mKS I g), J, 0, 0)) rfl trivial ?_
    refine r_icmp okX12_lineOf rfl (fun (h7 : ((mKS I g) 100 29) ≤ (nI k)) => ?_) (fun (h7 : ¬ ((mKS I g) 100 29) ≤ (nI k)) => ?_)
    · exact absurd h7 (by show ¬ I 100 29 ≤ _; rw [hR.2.1]; exact nI_ge (by omega) (by omega))
    · refine r_run okX12_lineOf 9 (cs := [vp_in (nI k) 32, vp_in (nI k) 32]) (σ' := (23, [some (.ref 100), some (.int (nI k))], [.int ((mKS I g) 123 ((nI k).toNatClampNeg)), .int ((mKS I g) 122 ((nI k).toNatClampNeg)), .ref 100], (SS b c), (mKS I g), J, 0, 0)) rfl ⟨(vin (by omega) (by decide)), (vin (by omega) (by decide)), trivial⟩ ?_
      simp only [ck, ew, ee]
      show Rj _ _ _ _ _ _ (23, [some (.ref 100), some (.int (nI k))], [.int (nI e), .int (nI w0), .ref 100], (SS b c), (mKS I g), J, 0, 0)
      refine r_callV okX12_lineOf okX12_valueOf [.int (nI w0), .int (nI e)] [] 100 rfl rfl rfl kkX12_valueOf rfl rfl (by decide) rfl rfl rfl (by decide) ⟨Nat.le_refl _, Nat.le_refl _⟩ (Nat.le_of_ble_eq_true rfl) (c_valueOf γ (I := mKS I g) (valC (I 134) q.2.2) w0 e he (flt q.2.2) hwe (cdA_k (I := I) (I' := mKS I g) rfl rfl hcw) (tyCd_val hok.2.2).2) (fun v1 S1 I1 J1 hp => ?_)
      obtain ⟨rfl, rfl, ⟨g1, rfl⟩, rfl⟩ := hp
      rw [mKS_2]
      show Rj _ _ _ _ _ _ (26, [some (.ref 100), some (.int (nI k))], [.int (valC (I 134) q.2.2)], (SS b c), (mKS I g1), J, 0, 0)
      refine r_ifc okX12_lineOf rfl (fun (h26 : (valC (I 134) q.2.2) = (0 : Int32)) => ?_) (fun (h26 : ¬ (valC (I 134) q.2.2) = (0 : Int32)) => ?_)
      · rw [lnN, if_pos h26] at hl
        refine r_run okX12_lineOf 2 (cs := []) (σ' := (2, [some (.ref 100), some (.int ((nI k) + 1))], [], (SS b c), (mKS I g1), J, 0, 0)) rfl trivial ?_
        rw [← nI_succ]
        exact ih (k + 1) g1 (by simp at hk; omega) (by rw [← List.tail_drop, hd]; rfl) hl
      · rw [lnN, if_neg h26] at hl
        refine r_run okX12_lineOf 1 (cs := []) (σ' := (30, [some (.ref 100), some (.int (nI k))], [.int (nI k)], (SS b c), (mKS I g1), J, 0, 0)) rfl trivial ?_
        refine r_iret okX12_lineOf rfl rfl rfl (Nat.le_refl _) (Nat.le_refl _) ?_
        refine ⟨?_, rfl, ⟨g1, rfl⟩, rfl⟩
        rw [hl]; rfl
theorem c_lineOf (γ : GE) {b c : Bool} {I : AI} {J : AJ} (ls : List Ln) (hR : MRul I ls) : Ct γ mX12_lineOf 2 0 0 [.ref 100] (SS b c) I J ((fun r S' I' J' => some (.int (bsI (lnN (I 134) ls 0))) = r ∧ (SS b c) = S' ∧ (∃ g, I' = mKS I g) ∧ J = J')) := by
  refine ct_of okX12_lineOf (L := [some (.ref 100), none]) (Nat.le_of_ble_eq_true rfl) rfl ?_
  refine r_run okX12_lineOf 2 (cs := []) (σ' := (2, [some (.ref 100), some (.int 0)], [], (SS b c), I, J, 0, 0)) rfl trivial ?_
  have h := lp_ln γ (b := b) (c := c) (I := I) (J := J) ls hR ls 0 (I 135) (by omega) rfl rfl
  rw [mKS_self, nI_0] at h
  exact h
