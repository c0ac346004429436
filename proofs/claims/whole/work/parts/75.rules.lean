/-! ===== the reference: rules ===== -/
def isL (a : Nat) : Bool := a == 120 || a == 121 || a == 122 || a == 123
def isK (a : Nat) : Bool := a == 124 || a == 125
def cpL (Y : AI) (n : Nat) : AI := fun a b => if isL a = true then (if b < n then Y a (16 + b) else Y a b) else Y a b
def cpC (Y : AI) (n : Nat) : AI := fun a b => if isK a = true then (if b < n then Y a (900 + b) else Y a b) else Y a b
theorem cpL_0 {Y : AI} : cpL Y 0 = Y := by funext a b; simp [cpL]
theorem cpC_0 {Y : AI} : cpC Y 0 = Y := by funext a b; simp [cpC]
theorem cpL_at {Y : AI} {a k : Nat} (hk : k < 16) : cpL Y k a (16 + k) = Y a (16 + k) := by unfold cpL; rw [if_neg (show ¬ 16 + k < k by omega)]; split <;> rfl
theorem cpC_at {Y : AI} {a k : Nat} : cpC Y k a (900 + k) = Y a (900 + k) := by unfold cpC; rw [if_neg (show ¬ 900 + k < k by omega)]; split <;> rfl
theorem cpL_ne {Y : AI} {a k : Nat} (h : isL a = false) : cpL Y k a = Y a := by funext b; unfold cpL; rw [if_neg (by rw [h]; decide)]
theorem cpC_ne {Y : AI} {a k : Nat} (h : isK a = false) : cpC Y k a = Y a := by funext b; unfold cpC; rw [if_neg (by rw [h]; decide)]
theorem cpL_s {Y : AI} {k : Nat} (hk : k < 16) : upI (upI (upI (upI (cpL Y k) 120 k (Y 120 (16 + k))) 121 k (Y 121 (16 + k))) 122 k (Y 122 (16 + k))) 123 k (Y 123 (16 + k)) = cpL Y (k + 1) := by
  funext a b
  by_cases hb : b = k
  · subst hb
    simp only [upI, cpL, if_true]
    by_cases h0 : a = 120
    · subst h0; simp [isL]
    · by_cases h1 : a = 121
      · subst h1; simp [isL]
      · by_cases h2 : a = 122
        · subst h2; simp [isL]
        · by_cases h3 : a = 123
          · subst h3; simp [isL]
          · simp [isL, h0, h1, h2, h3]
  · have e : (b < k + 1) = (b < k) := by apply propext; omega
    simp only [upI, cpL, if_neg hb, e]
    repeat' split
    all_goals rfl
theorem cpC_s {Y : AI} {k : Nat} : upI (upI (cpC Y k) 124 k (Y 124 (900 + k))) 125 k (Y 125 (900 + k)) = cpC Y (k + 1) := by
  funext a b
  by_cases hb : b = k
  · subst hb
    simp only [upI, cpC, if_true]
    by_cases h0 : a = 124
    · subst h0; simp [isK]
    · by_cases h1 : a = 125
      · subst h1; simp [isK]
      · simp [isK, h0, h1]
  · have e : (b < k + 1) = (b < k) := by apply propext; omega
    simp only [upI, cpC, if_neg hb, e]
    repeat' split
    all_goals rfl
def qU (a b : Nat) : Bool := qR a b || (a == 100 && (b == 23 || b == 42 || b == 43))
def qV (a b : Nat) : Bool := qU a b || ((a == 100 && b == 29) || (isL a || isK a))
theorem fR_U {X Y : AI} (h : fr qR X Y) : fr qU X Y := fr_m (fun a b z => by unfold qU at z; rw [Bool.or_eq_false_iff] at z; exact z.1) h
theorem fU_V {X Y : AI} (h : fr qU X Y) : fr qV X Y := fr_m (fun a b z => by unfold qV at z; rw [Bool.or_eq_false_iff] at z; exact z.1) h
theorem up_q {q : Nat → Nat → Bool} {X : AI} {c k : Nat} {v : Int32} (h : q c k = true) : fr q X (upI X c k v) := by
  intro a z hz
  unfold upI
  by_cases a1 : a = c
  · rw [if_pos a1]
    by_cases z1 : z = k
    · subst a1; subst z1; rw [h] at hz; cases hz
    · rw [if_neg z1]
  · rw [if_neg a1]
theorem qV_L {a b : Nat} (h : isL a = true) : qV a b = true := by unfold qV; rw [h]; simp
theorem qV_K {a b : Nat} (h : isK a = true) : qV a b = true := by unfold qV; rw [h]; simp
theorem fr_cpL {Y : AI} {n : Nat} : fr qV Y (cpL Y n) := by
  intro a b h
  have : isL a = false := by
    cases z : isL a with
    | false => rfl
    | true => rw [qV_L z] at h; cases h
  rw [cpL_ne this]
theorem fr_cpC {Y : AI} {n : Nat} : fr qV Y (cpC Y n) := by
  intro a b h
  have : isK a = false := by
    cases z : isK a with
    | false => rfl
    | true => rw [qV_K z] at h; cases h
  rw [cpC_ne this]
theorem LnAt_c {Y Z : AI} : ∀ {ls : List Ln} {k p : Nat}, (∀ a j, isL a = true → k ≤ j → j < k + ls.length → Z a j = Y a (16 + j)) → LnAt Y 16 k p ls → LnAt Z 0 k p ls
  | [], _, _, _, _ => trivial
  | q :: ls, k, p, h, hh => by
    have e : ∀ a, isL a = true → Z a (0 + k) = Y a (16 + k) := fun a ha => by rw [Nat.zero_add]; exact h a k ha (Nat.le_refl _) (by rw [List.length_cons]; omega)
    exact ⟨(e 120 rfl).trans hh.1, (e 121 rfl).trans hh.2.1, (e 122 rfl).trans hh.2.2.1, (e 123 rfl).trans hh.2.2.2.1, LnAt_c (fun a j ha h1 h2 => h a j ha (by omega) (by rw [List.length_cons]; omega)) hh.2.2.2.2⟩
theorem cdA_sh {Y Z : AI} : ∀ {l : List (Int32 × Int32)} {k : Nat}, (∀ a j, isK a = true → k ≤ j → j < k + l.length → Z a j = Y a (900 + j)) → cdA Y (900 + k) l → cdA Z k l
  | [], _, _, _ => trivial
  | q :: l, k, h, hh => by
    have e : ∀ a, isK a = true → Z a k = Y a (900 + k) := fun a ha => h a k ha (Nat.le_refl _) (by rw [List.length_cons]; omega)
    exact ⟨(e 124 rfl).trans hh.1, (e 125 rfl).trans hh.2.1, cdA_sh (fun a j ha h1 h2 => h a j ha (by omega) (by rw [List.length_cons]; omega)) hh.2.2⟩
theorem cdA_sp {Z : AI} : ∀ {l m : List (Int32 × Int32)} {k : Nat}, cdA Z k (l ++ m) → cdA Z k l ∧ cdA Z (k + l.length) m
  | [], m, k, h => ⟨trivial, h⟩
  | q :: l, m, k, h => by
    have h2 := cdA_sp (l := l) h.2.2
    exact ⟨⟨h.1, h.2.1, h2.1⟩, by rw [List.length_cons, show k + (l.length + 1) = k + 1 + l.length by omega]; exact h2.2⟩
theorem MLn_of {Z : AI} : ∀ {ls : List Ln} {k p : Nat}, LnAt Z 0 k p ls → cdA Z p (cdO ls) → p + (cdO ls).length ≤ 900 → ∀ j q, ls[j]? = some q → MLn Z (k + j) q
  | [], _, _, _, _, _, j, q, h => by simp at h
  | x :: ls, k, p, hL, hC, hp, j, q, h => by
    have hC' : cdA Z p (flt x.2.1 ++ flt x.2.2 ++ cdO ls) := hC
    have hp' : p + (flt x.2.1 ++ flt x.2.2 ++ cdO ls).length ≤ 900 := hp
    rw [List.length_append, List.length_append] at hp'
    obtain ⟨c1, c3⟩ := cdA_sp hC'
    obtain ⟨c1, c2⟩ := cdA_sp c1
    match j, h with
    | 0, h =>
      rw [List.getElem?_cons_zero] at h
      cases h
      refine ⟨p, p + (flt x.2.1).length, p + (flt x.2.1).length + (flt x.2.2).length, rfl, rfl, by omega, ?_⟩
      have h0 := hL.1; have h1 := hL.2.1; have h2 := hL.2.2.1; have h3 := hL.2.2.2.1
      rw [Nat.zero_add] at h0 h1 h2 h3
      rw [Nat.add_zero]
      exact ⟨h0, h1, h2, h3, c1, c2⟩
    | j + 1, h =>
      rw [List.getElem?_cons_succ] at h
      rw [List.length_append] at c3
      have := MLn_of hL.2.2.2.2 (by rw [Nat.add_assoc]; exact c3) (by omega) j q h
      rw [show k + (j + 1) = k + 1 + j by omega]
      exact this
def RsM (T : Nat → Int32) (n : Nat) (X : AI) (res : RR) (r : Option Value) (X' : AI) : Prop := match res with
  | .inl e => some (Value.int (-1)) = r ∧ fr qU X X' ∧ X' 100 23 = 0 ∧ X' 100 42 = e.1 ∧ X' 100 43 = nI (psN T n e.2)
  | .inr ls => some (Value.int (nI ls.length)) = r ∧ fr qV X X' ∧ X' 100 23 = 0 ∧ X' 100 42 = 0 ∧ X' 100 43 = -1 ∧ MRul X' ls
theorem i900 {m : Nat} : (900 : Int32) + nI m = nI (900 + m) := nI_ad 900 m
theorem ct_FR (γ : GE) {b c : Bool} {X : AI} {J : AJ} {T : Nat → Int32} {n : Nat} {m : MI} {d : Nat} {as : List Value} {e : Int32 × Nat} (h : Ct γ m d 0 0 as (SS b c) X J (fun r S' I' J' => (SS b c) = S' ∧ J = J' ∧ RsR T n X (.inl e) r I')) : Ct γ m d 0 0 as (SS b c) X J (fun r S' I' J' => some (.int (-1)) = r ∧ (SS b c) = S' ∧ (∃ X', X' = I' ∧ fr qR X X' ∧ X' 100 40 = e.1 ∧ X' 100 41 = nI (psN T n e.2)) ∧ J = J') := by
  refine ct_post (fun r S' I' J' h => ?_) h
  obtain ⟨rfl, rfl, h1, h2, h3, h4⟩ := h
  exact ⟨h1, rfl, ⟨_, rfl, h2, h3, h4⟩, rfl⟩
theorem ct_SR (γ : GE) {b c : Bool} {X : AI} {J : AJ} {T : Nat → Int32} {n : Nat} {m : MI} {d : Nat} {as : List Value} {ls : List Ln} (h : Ct γ m d 0 0 as (SS b c) X J (fun r S' I' J' => (SS b c) = S' ∧ J = J' ∧ RsR T n X (.inr ls) r I')) : Ct γ m d 0 0 as (SS b c) X J (fun r S' I' J' => some (.int (nI ls.length)) = r ∧ (SS b c) = S' ∧ (∃ X', X' = I' ∧ fr qR X X' ∧ LnAt X' 16 0 0 ls ∧ Out X' (cdO ls) ∧ ls.length ≤ 16 ∧ (cdO ls).length ≤ 800) ∧ J = J') := by
  refine ct_post (fun r S' I' J' h => ?_) h
  obtain ⟨rfl, rfl, h1, h2, h3, h4, h5⟩ := h
  exact ⟨h1, rfl, ⟨_, rfl, h2, h3, h4, h5⟩, rfl⟩
theorem lp_ru1 (γ : GE) {b c : Bool} {Y : AI} {J : AJ} {Post : PT} (n : Nat) (hn : n ≤ 16) (K : Rj γ mX12_rules 9 0 0 Post (134, [some (.ref 100), some (.int (nI n)), none], [], (SS b c), (cpL Y n), J, 0, 0)) : ∀ (j k : Nat), k + j = n → Rj γ mX12_rules 9 0 0 (Post) (63, [some (.ref 100), some (.int (nI n)), some (.int (nI k))], [], (SS b c), (cpL Y k), J, 0, 0) := by
  intro j
  induction j with
  | zero =>
    intro k  hj
    refine r_run okX12_rules 2 (cs := []) (σ' := (65, [some (.ref 100), some (.int (nI n)), some (.int (nI k))], [.int (nI n), .int (nI k)], (SS b c), (cpL Y k), J, 0, 0)) rfl trivial ?_
    refine r_icmp okX12_rules rfl (fun (h65 : (nI n) ≤ (nI k)) => ?_) (fun (h65 : ¬ (nI n) ≤ (nI k)) => ?_)
    · refine r_weak (L' := [some (.ref 100), some (.int (nI n)), none]) ⟨rfl, rfl, trivial⟩ ?_
      have e : k = n := by omega
      subst e
      exact K
    · exact absurd (nI_le (by omega) (by omega)) h65
  | succ j ih =>
    intro k  hj
    have hk : k < 16 := by omega
    have c16 : (nI (16 + k)).toNatClampNeg = 16 + k := nI_clamp (by omega)
    have ck : (nI k).toNatClampNeg = k := nI_clamp (by omega)
    refine r_run okX12_rules 2 (cs := []) (σ' := (65, [some (.ref 100), some (.int (nI n)), some (.int (nI k))], [.int (nI n), .int (nI k)], (SS b c), (cpL Y k), J, 0, 0)) rfl trivial ?_
    refine r_icmp okX12_rules rfl (fun (h65 : (nI n) ≤ (nI k)) => ?_) (fun (h65 : ¬ (nI n) ≤ (nI k)) => ?_)
    · exact absurd h65 (nI_ge (by omega) (by omega))
    · refine r_run okX12_rules 42 (cs := [vp_in (16 + (nI k)) 32, vp_in (nI k) 32, vp_in (16 + (nI k)) 32, vp_in (nI k) 32, vp_in (16 + (nI k)) 32, vp_in (nI k) 32, vp_in (16 + (nI k)) 32, vp_in (nI k) 32]) (σ' := (63, [some (.ref 100), some (.int (nI n)), some (.int ((nI k) + 1))], [], (SS b c), (upI (upI (upI (upI (cpL Y k) 120 ((nI k).toNatClampNeg) ((cpL Y k) 120 ((16 + (nI k)).toNatClampNeg))) 121 ((nI k).toNatClampNeg) ((cpL Y k) 121 ((16 + (nI k)).toNatClampNeg))) 122 ((nI k).toNatClampNeg) ((cpL Y k) 122 ((16 + (nI k)).toNatClampNeg))) 123 ((nI k).toNatClampNeg) ((cpL Y k) 123 ((16 + (nI k)).toNatClampNeg))), J, 0, 0)) rfl ⟨(by rw [i16]; exact vin (by omega) (by decide)), (vin (by omega) (by decide)), (by rw [i16]; exact vin (by omega) (by decide)), (vin (by omega) (by decide)), (by rw [i16]; exact vin (by omega) (by decide)), (vin (by omega) (by decide)), (by rw [i16]; exact vin (by omega) (by decide)), (vin (by omega) (by decide)), trivial⟩ ?_
      simp only [i16, c16, ck, cpL_at hk]
      show Rj _ _ _ _ _ _ (63, [some (.ref 100), some (.int (nI n)), some (.int ((nI k) + 1))], [], (SS b c), (upI (upI (upI (upI (cpL Y k) 120 k (Y 120 (16 + k))) 121 k (Y 121 (16 + k))) 122 k (Y 122 (16 + k))) 123 k (Y 123 (16 + k))), J, 0, 0)
      rw [cpL_s hk, ← nI_succ]
      exact ih (k + 1) (by omega)
theorem lp_ru2 (γ : GE) {b c : Bool} {Y : AI} {J : AJ} {Post : PT} (v : Int32) (n : Nat) (hn : n ≤ 800) (hm : Y 100 36 = nI n) (K : Rj γ mX12_rules 9 0 0 Post (182, [some (.ref 100), some (.int v), none], [], (SS b c), (cpC Y n), J, 0, 0)) : ∀ (j k : Nat), k + j = n → Rj γ mX12_rules 9 0 0 (Post) (136, [some (.ref 100), some (.int v), some (.int (nI k))], [], (SS b c), (cpC Y k), J, 0, 0) := by
  intro j
  induction j with
  | zero =>
    intro k  hj
    have e36 : (cpC Y k) 100 36 = nI n := (congrFun (cpC_ne rfl) 36).trans hm
    have c9 : (nI (900 + k)).toNatClampNeg = 900 + k := nI_clamp (by omega)
    have ck : (nI k).toNatClampNeg = k := nI_clamp (by omega)
    refine r_run okX12_rules 3 (cs := []) (σ' := (141, [some (.ref 100), some (.int v), some (.int (nI k))], [.int ((cpC Y k) 100 36), .int (nI k)], (SS b c), (cpC Y k), J, 0, 0)) rfl trivial ?_
    simp only [e36]
    show Rj _ _ _ _ _ _ (141, [some (.ref 100), some (.int v), some (.int (nI k))], [.int (nI n), .int (nI k)], (SS b c), (cpC Y k), J, 0, 0)
    refine r_icmp okX12_rules rfl (fun (h141 : (nI n) ≤ (nI k)) => ?_) (fun (h141 : ¬ (nI n) ≤ (nI k)) => ?_)
    · refine r_weak (L' := [some (.ref 100), some (.int v), none]) ⟨rfl, rfl, trivial⟩ ?_
      have e : k = n := by omega
      subst e
      exact K
    · exact absurd (nI_le (by omega) (by omega)) h141
  | succ j ih =>
    intro k  hj
    have e36 : (cpC Y k) 100 36 = nI n := (congrFun (cpC_ne rfl) 36).trans hm
    have c9 : (nI (900 + k)).toNatClampNeg = 900 + k := nI_clamp (by omega)
    have ck : (nI k).toNatClampNeg = k := nI_clamp (by omega)
    refine r_run okX12_rules 3 (cs := []) (σ' := (141, [some (.ref 100), some (.int v), some (.int (nI k))], [.int ((cpC Y k) 100 36), .int (nI k)], (SS b c), (cpC Y k), J, 0, 0)) rfl trivial ?_
    simp only [e36]
    show Rj _ _ _ _ _ _ (141, [some (.ref 100), some (.int v), some (.int (nI k))], [.int (nI n), .int (nI k)], (SS b c), (cpC Y k), J, 0, 0)
    refine r_icmp okX12_rules rfl (fun (h141 : (nI n) ≤ (nI k)) => ?_) (fun (h141 : ¬ (nI n) ≤ (nI k)) => ?_)
    · exact absurd h141 (nI_ge (by omega) (by omega))
    · refine r_run okX12_rules 22 (cs := [vp_in (900 + (nI k)) 1800, vp_in (nI k) 1800, vp_in (900 + (nI k)) 1800, vp_in (nI k) 1800]) (σ' := (136, [some (.ref 100), some (.int v), some (.int ((nI k) + 1))], [], (SS b c), (upI (upI (cpC Y k) 124 ((nI k).toNatClampNeg) ((cpC Y k) 124 ((900 + (nI k)).toNatClampNeg))) 125 ((nI k).toNatClampNeg) ((cpC Y k) 125 ((900 + (nI k)).toNatClampNeg))), J, 0, 0)) rfl ⟨(by rw [i900]; exact vin (by omega) (by decide)), (vin (by omega) (by decide)), (by rw [i900]; exact vin (by omega) (by decide)), (vin (by omega) (by decide)), trivial⟩ ?_
      simp only [i900, c9, ck, cpC_at]
      show Rj _ _ _ _ _ _ (136, [some (.ref 100), some (.int v), some (.int ((nI k) + 1))], [], (SS b c), (upI (upI (cpC Y k) 124 k (Y 124 (900 + k))) 125 k (Y 125 (900 + k))), J, 0, 0)
      rw [cpC_s, ← nI_succ]
      exact ih (k + 1) (by omega)
theorem c_MrulesF (γ : GE) {b c : Bool} {I : AI} {J : AJ} {n : Nat} (hT0 : I 100 0 = 0) (hT : TpOK (I 118) n) (hn : I 100 23 = nI n) (hW : MWds I) (e : Int32 × Nat) (hd : ∃ f, RdT (I 118) n f 0 [] (.inl e)) : Ct γ mX12_rules 9 0 0 [.ref 100] (SS b c) I J (fun r S' I' J' => (SS b c) = S' ∧ J = J' ∧ RsM (I 118) n I (.inl e) r I') := by
  have ht := told0 hT0
  refine ct_of okX12_rules (L := [some (.ref 100), none, none]) (Nat.le_of_ble_eq_true rfl) rfl ?_
  refine r_run okX12_rules 4 (cs := []) (σ' := (6, [some (.ref 100), none, none], [.ref 100], (SS b c), (upI I 100 0 0), J, 0, 0)) rfl trivial ?_
  simp only [ht]
  show Rj _ _ _ _ _ _ (6, [some (.ref 100), none, none], [.ref 100], (SS b c), I, J, 0, 0)
  refine r_callV okX12_rules okX12_reads [] [] 100 rfl rfl rfl kkX12_reads rfl rfl (by decide) rfl rfl rfl (by decide) ⟨Nat.le_refl _, Nat.le_refl _⟩ (Nat.le_of_ble_eq_true rfl) (ct_FR γ (c_reads γ hT hn hW (.inl e) hd)) (fun v1 S1 I1 J1 hp => ?_)
  obtain ⟨rfl, rfl, ⟨X1, rfl, f1, e1, e2⟩, rfl⟩ := hp
  show Rj _ _ _ _ _ _ (9, [some (.ref 100), none, none], [.int (-1)], (SS b c), X1, J, 0, 0)
  refine r_run okX12_rules 7 (cs := []) (σ' := (18, [some (.ref 100), some (.int (-1)), none], [.int (-1), .int (-1), .ref 100], (SS b c), (upI X1 100 23 0), J, 0, 0)) rfl trivial ?_
  refine r_icmp okX12_rules rfl (fun (h18 : ¬ ((-1) : Int32) = ((-1) : Int32)) => ?_) (fun h180 => ?_)
  · exact absurd h18 (by decide)
  · have h18 : ((-1) : Int32) = ((-1) : Int32) := Classical.not_not.mp h180
    refine r_run okX12_rules 7 (cs := []) (σ' := (35, [some (.ref 100), some (.int (-1)), none], [.int (-1), .int (-1), .ref 100], (SS b c), (upI (upI X1 100 23 0) 100 42 (X1 100 40)), J, 0, 0)) rfl trivial ?_
    refine r_icmp okX12_rules rfl (fun (h35 : ¬ ((-1) : Int32) = ((-1) : Int32)) => ?_) (fun h350 => ?_)
    · exact absurd h35 (by decide)
    · have h35 : ((-1) : Int32) = ((-1) : Int32) := Classical.not_not.mp h350
      refine r_run okX12_rules 6 (cs := []) (σ' := (51, [some (.ref 100), some (.int (-1)), none], [.int (-1), .int (-1)], (SS b c), (upI (upI (upI X1 100 23 0) 100 42 (X1 100 40)) 100 43 (X1 100 41)), J, 0, 0)) rfl trivial ?_
      refine r_icmp okX12_rules rfl (fun (h51 : ¬ ((-1) : Int32) = ((-1) : Int32)) => ?_) (fun h510 => ?_)
      · exact absurd h51 (by decide)
      · have h51 : ((-1) : Int32) = ((-1) : Int32) := Classical.not_not.mp h510
        refine r_run okX12_rules 1 (cs := []) (σ' := (55, [some (.ref 100), some (.int (-1)), none], [.int (-1)], (SS b c), (upI (upI (upI X1 100 23 0) 100 42 (X1 100 40)) 100 43 (X1 100 41)), J, 0, 0)) rfl trivial ?_
        refine r_iret okX12_rules rfl rfl rfl (Nat.le_refl _) (Nat.le_refl _) ?_
        refine ⟨rfl, rfl, rfl, ?_, rfl, e1, e2⟩
        exact fr_t (fR_U f1) (fr_t (up_q rfl) (fr_t (up_q rfl) (up_q rfl)))
theorem c_MrulesS (γ : GE) {b c : Bool} {I : AI} {J : AJ} {n : Nat} (hT0 : I 100 0 = 0) (hT : TpOK (I 118) n) (hn : I 100 23 = nI n) (hW : MWds I) (ls : List Ln) (hd : ∃ f, RdT (I 118) n f 0 [] (.inr ls)) : Ct γ mX12_rules 9 0 0 [.ref 100] (SS b c) I J (fun r S' I' J' => (SS b c) = S' ∧ J = J' ∧ RsM (I 118) n I (.inr ls) r I') := by
  have ht := told0 hT0
  refine ct_of okX12_rules (L := [some (.ref 100), none, none]) (Nat.le_of_ble_eq_true rfl) rfl ?_
  refine r_run okX12_rules 4 (cs := []) (σ' := (6, [some (.ref 100), none, none], [.ref 100], (SS b c), (upI I 100 0 0), J, 0, 0)) rfl trivial ?_
  simp only [ht]
  show Rj _ _ _ _ _ _ (6, [some (.ref 100), none, none], [.ref 100], (SS b c), I, J, 0, 0)
  refine r_callV okX12_rules okX12_reads [] [] 100 rfl rfl rfl kkX12_reads rfl rfl (by decide) rfl rfl rfl (by decide) ⟨Nat.le_refl _, Nat.le_refl _⟩ (Nat.le_of_ble_eq_true rfl) (ct_SR γ (c_reads γ hT hn hW (.inr ls) hd)) (fun v1 S1 I1 J1 hp => ?_)
  obtain ⟨rfl, rfl, ⟨X1, rfl, f1, hL, hO, h16, h8⟩, rfl⟩ := hp
  show Rj _ _ _ _ _ _ (9, [some (.ref 100), none, none], [.int (nI ls.length)], (SS b c), X1, J, 0, 0)
  refine r_run okX12_rules 7 (cs := []) (σ' := (18, [some (.ref 100), some (.int (nI ls.length)), none], [.int (-1), .int (nI ls.length), .ref 100], (SS b c), (upI X1 100 23 0), J, 0, 0)) rfl trivial ?_
  refine r_icmp okX12_rules rfl (fun (h18 : ¬ (nI ls.length) = ((-1) : Int32)) => ?_) (fun h180 => ?_)
  · refine r_run okX12_rules 5 (cs := []) (σ' := (35, [some (.ref 100), some (.int (nI ls.length)), none], [.int (-1), .int (nI ls.length), .ref 100], (SS b c), (upI (upI X1 100 23 0) 100 42 0), J, 0, 0)) rfl trivial ?_
    refine r_icmp okX12_rules rfl (fun (h35 : ¬ (nI ls.length) = ((-1) : Int32)) => ?_) (fun h350 => ?_)
    · refine r_run okX12_rules 4 (cs := []) (σ' := (51, [some (.ref 100), some (.int (nI ls.length)), none], [.int (-1), .int (nI ls.length)], (SS b c), (upI (upI (upI X1 100 23 0) 100 42 0) 100 43 (-1)), J, 0, 0)) rfl trivial ?_
      refine r_icmp okX12_rules rfl (fun (h51 : ¬ (nI ls.length) = ((-1) : Int32)) => ?_) (fun h510 => ?_)
      · refine r_run okX12_rules 5 (cs := []) (σ' := (63, [some (.ref 100), some (.int (nI ls.length)), some (.int 0)], [], (SS b c), (upI (upI (upI (upI X1 100 23 0) 100 42 0) 100 43 (-1)) 100 29 (nI ls.length)), J, 0, 0)) rfl trivial ?_
        obtain ⟨Z, hZ⟩ : ∃ Z, Z = (upI (upI (upI (upI X1 100 23 0) 100 42 0) 100 43 (-1)) 100 29 (nI ls.length)) := ⟨_, rfl⟩
        rw [← hZ]
        have hO : Out Z (cdO ls) := by rw [hZ]; exact ⟨hO.1, cdA_k (I := X1) (I' := (upI (upI (upI (upI X1 100 23 0) 100 42 0) 100 43 (-1)) 100 29 (nI ls.length))) rfl rfl hO.2⟩
        have hL : LnAt Z 16 0 0 ls := by rw [hZ]; exact LnAt_k (N := ls.length) (fun a k ha _ => by rcases ha with rfl | rfl | rfl | rfl <;> rfl) (by omega) hL
        have hL2 : LnAt (cpC (cpL Z ls.length) (cdO ls).length) 0 0 0 ls := LnAt_c (fun a j ha _ hj => by rw [Nat.zero_add] at hj; rw [cpC_ne (by unfold isL at ha; unfold isK; revert ha; simp only [Bool.or_eq_true, beq_iff_eq, Bool.or_eq_false_iff, beq_eq_false_iff_ne]; omega)]; unfold cpL; rw [if_pos ha, if_pos hj]) hL
        have hC2 : cdA (cpC (cpL Z ls.length) (cdO ls).length) 0 (cdO ls) := cdA_sh (Y := Z) (fun a j ha _ hj => by rw [Nat.zero_add] at hj; unfold cpC; rw [if_pos ha, if_pos hj, cpL_ne (by unfold isK at ha; unfold isL; revert ha; simp only [Bool.or_eq_true, beq_iff_eq, Bool.or_eq_false_iff, beq_eq_false_iff_ne]; omega)]) hO.2
        have g : ∀ k, (cpC (cpL Z ls.length) (cdO ls).length) 100 k = Z 100 k := fun k => (congrFun (cpC_ne rfl) k).trans (congrFun (cpL_ne rfl) k)
        have z1 := (g 23).trans (show Z 100 23 = 0 by rw [hZ]; rfl)
        have z2 := (g 42).trans (show Z 100 42 = 0 by rw [hZ]; rfl)
        have z3 := (g 43).trans (show Z 100 43 = -1 by rw [hZ]; rfl)
        have z4 := (g 29).trans (show Z 100 29 = nI ls.length by rw [hZ]; rfl)
        have h134 : Rj γ mX12_rules 9 0 0 (fun r S' I' J' => (SS b c) = S' ∧ J = J' ∧ RsM (I 118) n I (.inr ls) r I') (134, [some (.ref 100), some (.int (nI ls.length)), none], [], (SS b c), (cpL Z ls.length), J, 0, 0) := by
          refine r_run okX12_rules 2 (cs := []) (σ' := (136, [some (.ref 100), some (.int (nI ls.length)), some (.int 0)], [], (SS b c), (cpL Z ls.length), J, 0, 0)) rfl trivial ?_
          have h182 : Rj γ mX12_rules 9 0 0 (fun r S' I' J' => (SS b c) = S' ∧ J = J' ∧ RsM (I 118) n I (.inr ls) r I') (182, [some (.ref 100), some (.int (nI ls.length)), none], [], (SS b c), (cpC (cpL Z ls.length) (cdO ls).length), J, 0, 0) := by
            refine r_run okX12_rules 1 (cs := []) (σ' := (183, [some (.ref 100), some (.int (nI ls.length)), none], [.int (nI ls.length)], (SS b c), (cpC (cpL Z ls.length) (cdO ls).length), J, 0, 0)) rfl trivial ?_
            refine r_iret okX12_rules rfl rfl rfl (Nat.le_refl _) (Nat.le_refl _) ?_
            refine ⟨rfl, rfl, rfl, ?_, ?_, ?_, ?_, ?_, ?_, ?_⟩
            · refine fr_t (fr_t (fU_V (fR_U f1)) ?_) (fr_t (fr_cpL (Y := Z) (n := ls.length)) fr_cpC)
              rw [hZ]; exact fr_t (up_q rfl) (fr_t (up_q rfl) (fr_t (up_q rfl) (up_q rfl)))
            · exact z1
            · exact z2
            · exact z3
            · exact h16
            · exact z4
            · intro k q hq
              refine ⟨?_, ty_Rd _ _ _ (fun x hx => by cases hx) hd.choose_spec q (List.mem_of_getElem? hq)⟩
              have := MLn_of (Z := cpC (cpL Z ls.length) (cdO ls).length) (k := 0) (p := 0) hL2 hC2 (by omega) k q hq
              rw [Nat.zero_add] at this
              exact this
          have h := lp_ru2 γ (Y := cpL Z ls.length) (nI ls.length) (cdO ls).length h8 ((congrFun (cpL_ne rfl) 36).trans hO.1) h182 (cdO ls).length 0 (by omega)
          rw [cpC_0, nI_0] at h
          exact h
        have h := lp_ru1 γ (Y := Z) (J := J) ls.length h16 h134 ls.length 0 (by omega)
        rw [cpL_0, nI_0] at h
        exact r_weak (L' := [some (.ref 100), some (.int (nI ls.length)), some (.int 0)]) ⟨rfl, rfl, rfl, trivial⟩ h
      · have h51 : (nI ls.length) = ((-1) : Int32) := Classical.not_not.mp h510
        exact absurd h51 (nI_m1 (by omega))
    · have h35 : (nI ls.length) = ((-1) : Int32) := Classical.not_not.mp h350
      exact absurd h35 (nI_m1 (by omega))
  · have h18 : (nI ls.length) = ((-1) : Int32) := Classical.not_not.mp h180
    exact absurd h18 (nI_m1 (by omega))
theorem c_Mrules (γ : GE) {b c : Bool} {I : AI} {J : AJ} {n : Nat} (hT0 : I 100 0 = 0) (hT : TpOK (I 118) n) (hn : I 100 23 = nI n) (hW : MWds I) (res : RR) (hd : ∃ f, RdT (I 118) n f 0 [] res) : Ct γ mX12_rules 9 0 0 [.ref 100] (SS b c) I J (fun r S' I' J' => (SS b c) = S' ∧ J = J' ∧ RsM (I 118) n I res r I') := by
  cases res with
  | inl e => exact c_MrulesF γ hT0 hT hn hW e hd
  | inr ls => exact c_MrulesS γ hT0 hT hn hW ls hd
