/-! ===== what a row of tokens says (both sides meet here); the reference: readUnit, readProduct, readSum ===== -/
abbrev PR : Type := (Int32 × Nat) ⊕ (Cd × Nat)
def uR (T : Nat → Int32) (n i : Nat) : PR := if kK T n i = 16 then .inr ([(0, kV T n i)], i + 1) else if inB (kK T n i) 7 15 then .inr ([(1, kK T n i - 7)], i + 1) else .inl (1, i)
def wC : Option Int32 → Cd
  | none => []
  | some o => [(o, 0)]
def PdT (T : Nat → Int32) (n : Nat) : Nat → Nat → Cd → PR → Prop
  | 0, _, _, _ => False
  | f + 1, i, acc, res => if kK T n i = 42 then (match uR T n (i + 1) with | .inl e => res = .inl e | .inr q => PdT T n f q.2 (acc ++ q.1 ++ [(4, 0)]) res)
    else if kK T n i = 47 then (if kK T n (i + 1) = 16 then (if kV T n (i + 1) = 0 then res = .inl (2, i + 1) else PdT T n f (i + 2) (acc ++ [(5, kV T n (i + 1))]) res) else res = .inl (1, i + 1))
    else res = .inr (acc, i)
def SmT (T : Nat → Int32) (n : Nat) : Nat → Option Int32 → Nat → Cd → PR → Prop
  | 0, _, _, _, _ => False
  | f + 1, W, i, acc, res => if kK T n i = 43 ∨ kK T n i = 45 then (match uR T n (i + 1) with | .inl e => res = .inl e | .inr q => SmT T n f (some (if kK T n i = 43 then 2 else 3)) q.2 (acc ++ wC W ++ q.1) res)
    else if kK T n i = 42 then (match uR T n (i + 1) with | .inl e => res = .inl e | .inr q => SmT T n f W q.2 (acc ++ q.1 ++ [(4, 0)]) res)
    else if kK T n i = 47 then (if kK T n (i + 1) = 16 then (if kV T n (i + 1) = 0 then res = .inl (2, i + 1) else SmT T n f W (i + 2) (acc ++ [(5, kV T n (i + 1))]) res) else res = .inl (1, i + 1))
    else res = .inr (acc ++ wC W, i)
def Pd (T : Nat → Int32) (n i : Nat) (res : PR) : Prop := match uR T n i with
  | .inl e => res = .inl e
  | .inr q => ∃ f, PdT T n f q.2 q.1 res
def Sm (T : Nat → Int32) (n i : Nat) (res : PR) : Prop := match uR T n i with
  | .inl e => res = .inl e
  | .inr q => ∃ f, SmT T n f none q.2 q.1 res
theorem uR_len {T : Nat → Int32} {n i : Nat} {q : Cd × Nat} (h : uR T n i = .inr q) : q.2 = i + 1 ∧ (flt q.1).length = 1 := by
  unfold uR at h
  split at h
  · cases h; exact ⟨rfl, rfl⟩
  · split at h
    · cases h; exact ⟨rfl, rfl⟩
    · cases h
theorem flt_l1 {o x : Int32} (h : ¬ o = 5) : (flt [(o, x)]).length = 1 := by unfold flt; rw [if_neg h]; rfl
theorem flt_l2 {x : Int32} : (flt [((5 : Int32), x)]).length = 2 := rfl
theorem PdT_len {T : Nat → Int32} {n : Nat} : ∀ {f i : Nat} {acc : Cd} {q : Cd × Nat}, PdT T n f i acc (.inr q) → (flt q.1).length + i ≤ (flt acc).length + q.2
  | 0, _, _, _, h => h.elim
  | f + 1, i, acc, q, h => by
    unfold PdT at h
    split at h
    · cases hu : uR T n (i + 1) with
      | inl e => rw [hu] at h; cases h
      | inr u =>
        rw [hu] at h
        have h1 := PdT_len h
        have h2 := uR_len hu
        rw [flt_app, flt_app, List.length_append, List.length_append, h2.2, flt_l1 (by decide)] at h1
        omega
    · split at h
      · split at h
        · split at h
          · cases h
          · have h1 := PdT_len h
            rw [flt_app, List.length_append, flt_l2] at h1
            omega
        · cases h
      · cases h; exact Nat.le_refl _
theorem SmT_sp {T : Nat → Int32} {n : Nat} {res : PR} : ∀ {f i : Nat} {W : Option Int32} {a c : Cd}, SmT T n f W i (a ++ c) res → ∃ r1, PdT T n f i c r1 ∧ ((∃ e, r1 = .inl e ∧ res = .inl e) ∨ ∃ q, r1 = .inr q ∧ ¬ kK T n q.2 = 42 ∧ ¬ kK T n q.2 = 47 ∧ ∃ f1, f1 ≤ f ∧ SmT T n f1 W q.2 (a ++ q.1) res)
  | 0, _, _, _, _, h => h.elim
  | f + 1, i, W, a, c, h => by
    have h0 := h
    unfold SmT at h
    unfold PdT
    split at h
    · rename_i k
      refine ⟨.inr (c, i), ?_, Or.inr ⟨(c, i), rfl, ?_, ?_, f + 1, Nat.le_refl _, h0⟩⟩
      · rcases k with k | k <;> rw [if_neg (by rw [k]; decide), if_neg (by rw [k]; decide)]
      · rcases k with k | k <;> (show ¬ kK T n i = 42; rw [k]; decide)
      · rcases k with k | k <;> (show ¬ kK T n i = 47; rw [k]; decide)
    · split at h
      · rename_i k
        simp only [if_pos k]
        cases hu : uR T n (i + 1) with
        | inl e => rw [hu] at h; exact ⟨.inl e, rfl, Or.inl ⟨e, rfl, h⟩⟩
        | inr u =>
          rw [hu] at h
          replace h : SmT T n f W u.2 (a ++ c ++ u.1 ++ [(4, 0)]) res := h
          rw [show a ++ c ++ u.1 ++ [((4 : Int32), (0 : Int32))] = a ++ (c ++ u.1 ++ [(4, 0)]) by simp] at h
          obtain ⟨r1, h1, h2⟩ := SmT_sp h
          refine ⟨r1, h1, ?_⟩
          rcases h2 with h2 | ⟨q, e1, e2, e3, f1, e4, e5⟩
          · exact Or.inl h2
          · exact Or.inr ⟨q, e1, e2, e3, f1, by omega, e5⟩
      · rename_i k
        simp only [if_neg k]
        split at h
        · rename_i k7
          simp only [if_pos k7]
          split at h
          · rename_i k16
            simp only [if_pos k16]
            split at h
            · rename_i k0
              exact ⟨.inl (2, i + 1), by rw [if_pos k0], Or.inl ⟨_, rfl, h⟩⟩
            · rename_i k0
              simp only [if_neg k0]
              rw [List.append_assoc] at h
              obtain ⟨r1, h1, h2⟩ := SmT_sp h
              refine ⟨r1, h1, ?_⟩
              rcases h2 with h2 | ⟨q, e1, e2, e3, f1, e4, e5⟩
              · exact Or.inl h2
              · exact Or.inr ⟨q, e1, e2, e3, f1, by omega, e5⟩
          · rename_i k16
            simp only [if_neg k16]
            exact ⟨.inl (1, i + 1), rfl, Or.inl ⟨_, rfl, h⟩⟩
        · rename_i k7
          simp only [if_neg k7]
          exact ⟨.inr (c, i), rfl, Or.inr ⟨(c, i), rfl, k, k7, f + 1, Nat.le_refl _, h0⟩⟩
theorem SmT_len {T : Nat → Int32} {n : Nat} : ∀ {f i : Nat} {W : Option Int32} {acc : Cd} {q : Cd × Nat}, (∀ o, W = some o → ¬ o = 5) → SmT T n f W i acc (.inr q) → (flt q.1).length + i ≤ (flt acc).length + (wC W).length + q.2
  | 0, _, _, _, _, _, h => h.elim
  | f + 1, i, W, acc, q, hW, h => by
    have hw : (flt (wC W)).length = (wC W).length := by
      cases W with
      | none => rfl
      | some o => exact flt_l1 (hW o rfl)
    unfold SmT at h
    split at h
    · cases hu : uR T n (i + 1) with
      | inl e => rw [hu] at h; cases h
      | inr u =>
        rw [hu] at h
        have h1 := SmT_len (by intro o ho; cases ho; split <;> decide) h
        have h2 := uR_len hu
        rw [flt_app, flt_app, List.length_append, List.length_append, h2.2, hw] at h1
        simp only [wC, List.length_cons, List.length_nil] at h1 ⊢
        omega
    · split at h
      · cases hu : uR T n (i + 1) with
        | inl e => rw [hu] at h; cases h
        | inr u =>
          rw [hu] at h
          have h1 := SmT_len hW h
          have h2 := uR_len hu
          rw [flt_app, flt_app, List.length_append, List.length_append, h2.2, flt_l1 (by decide)] at h1
          omega
      · split at h
        · split at h
          · split at h
            · cases h
            · have h1 := SmT_len hW h
              rw [flt_app, List.length_append, flt_l2] at h1
              omega
          · cases h
        · cases h; rw [flt_app, List.length_append, hw]; omega
def RsP (T : Nat → Int32) (n : Nat) (X : AI) (l : List (Int32 × Int32)) (res : PR) (r : Option Value) (X' : AI) : Prop := match res with
  | .inl e => some (Value.int (-1)) = r ∧ fr qP X X' ∧ X' 100 40 = e.1 ∧ X' 100 41 = nI (psN T n e.2)
  | .inr q => some (Value.int 0) = r ∧ fr qP X X' ∧ PSt T n X' q.2 ∧ Out X' (l ++ flt q.1) ∧ kp X X'
theorem RsP_t {T : Nat → Int32} {n : Nat} {X Y X' : AI} {l m : List (Int32 × Int32)} {res : PR} {r : Option Value} (h1 : fr qP X Y) (h2 : kp X Y) (h : RsP T n Y l res r X') : RsP T n X l res r X' := by
  unfold RsP at *
  cases res with
  | inl e => exact ⟨h.1, fr_t h1 h.2.1, h.2.2⟩
  | inr q => exact ⟨h.1, fr_t h1 h.2.1, h.2.2.1, h.2.2.2.1, kp_t h2 h.2.2.2.2⟩
theorem c_isSign1 (γ : GE) {b c : Bool} {X : AI} {J : AJ} {T : Nat → Int32} {n i : Nat} (hP : PSt T n X i) (v : Int32) (hc : siB v = true) (h : kK T n i = v) : Ct γ mX12_isSign 0 0 0 [.ref 100, .int v] (SS b c) X J (rI 1 (SS b c) X J) := by
  have q := c_isSign γ (b := b) (c := c) (J := J) hP v hc; rw [decide_eq_true h] at q; exact q
theorem c_isSign0 (γ : GE) {b c : Bool} {X : AI} {J : AJ} {T : Nat → Int32} {n i : Nat} (hP : PSt T n X i) (v : Int32) (hc : siB v = true) (h : ¬ kK T n i = v) : Ct γ mX12_isSign 0 0 0 [.ref 100, .int v] (SS b c) X J (rI 0 (SS b c) X J) := by
  have q := c_isSign γ (b := b) (c := c) (J := J) hP v hc; rw [decide_eq_false h] at q; exact q
theorem c_isWord1 (γ : GE) {b c : Bool} {X : AI} {J : AJ} {T : Nat → Int32} {n i : Nat} (hP : PSt T n X i) (v : Nat) (hc : v < 16) {x : Int32} (ex : x = nI v) (h : kK T n i = x) : Ct γ mX12_isWord 0 0 0 [.ref 100, .int x] (SS b c) X J (rI 1 (SS b c) X J) := by
  subst ex; have q := c_isWord γ (b := b) (c := c) (J := J) hP v hc; rw [decide_eq_true h] at q; exact q
theorem c_isWord0 (γ : GE) {b c : Bool} {X : AI} {J : AJ} {T : Nat → Int32} {n i : Nat} (hP : PSt T n X i) (v : Nat) (hc : v < 16) {x : Int32} (ex : x = nI v) (h : ¬ kK T n i = x) : Ct γ mX12_isWord 0 0 0 [.ref 100, .int x] (SS b c) X J (rI 0 (SS b c) X J) := by
  subst ex; have q := c_isWord γ (b := b) (c := c) (J := J) hP v hc; rw [decide_eq_false h] at q; exact q
theorem ct_F (γ : GE) {b c : Bool} {X : AI} {J : AJ} {T : Nat → Int32} {n : Nat} {m : MI} {d : Nat} {l : List (Int32 × Int32)} {res : PR} {e : Int32 × Nat} (he : res = .inl e) (h : Ct γ m d 0 0 [.ref 100] (SS b c) X J (fun r S' I' J' => (SS b c) = S' ∧ J = J' ∧ RsP T n X l res r I')) : Ct γ m d 0 0 [.ref 100] (SS b c) X J (fun r S' I' J' => some (.int (-1)) = r ∧ (SS b c) = S' ∧ (∃ X', X' = I' ∧ fr qP X X' ∧ X' 100 40 = e.1 ∧ X' 100 41 = nI (psN T n e.2)) ∧ J = J') := by
  subst he
  exact ct_post (fun r S' I' J' hp => ⟨hp.2.2.1, hp.1, ⟨I', rfl, hp.2.2.2⟩, hp.2.1⟩) h
theorem ct_S (γ : GE) {b c : Bool} {X : AI} {J : AJ} {T : Nat → Int32} {n : Nat} {m : MI} {d : Nat} {l : List (Int32 × Int32)} {res : PR} {q : Cd × Nat} (he : res = .inr q) (h : Ct γ m d 0 0 [.ref 100] (SS b c) X J (fun r S' I' J' => (SS b c) = S' ∧ J = J' ∧ RsP T n X l res r I')) : Ct γ m d 0 0 [.ref 100] (SS b c) X J (fun r S' I' J' => some (.int 0) = r ∧ (SS b c) = S' ∧ (∃ X', X' = I' ∧ fr qP X X' ∧ PSt T n X' q.2 ∧ Out X' (l ++ flt q.1) ∧ kp X X') ∧ J = J') := by
  subst he
  exact ct_post (fun r S' I' J' hp => ⟨hp.2.2.1, hp.1, ⟨I', rfl, hp.2.2.2⟩, hp.2.1⟩) h
theorem c_readUnit (γ : GE) {b c : Bool} {X : AI} {J : AJ} {T : Nat → Int32} {n i : Nat} {l : List (Int32 × Int32)} (hT : TpOK T n) (hP : PSt T n X i) (hO : Out X l) (hl : l.length ≤ i) : Ct γ mX12_readUnit 3 0 0 [.ref 100] (SS b c) X J (fun r S' I' J' => (SS b c) = S' ∧ J = J' ∧ RsP T n X l (uR T n i) r I') := by
  have hR := hP.2.2.2.2.2.2
  have h8 := hT.1
  have hi := hP.2.2.2.1
  refine ct_of okX12_readUnit (L := [some (.ref 100), none]) (Nat.le_of_ble_eq_true rfl) rfl ?_
  refine r_run okX12_readUnit 3 (cs := []) (σ' := (5, [some (.ref 100), none], [.int 2, .int (X 100 26)], (SS b c), X, J, 0, 0)) rfl trivial ?_
  refine r_icmp okX12_readUnit rfl (fun (h5 : ¬ (X 100 26) = (2 : Int32)) => ?_) (fun h50 => ?_)
  · refine r_run okX12_readUnit 3 (cs := []) (σ' := (24, [some (.ref 100), some (.int 0)], [.int 0], (SS b c), X, J, 0, 0)) rfl trivial ?_
    refine r_ifc okX12_readUnit rfl (fun (h24 : ¬ (0 : Int32) = (0 : Int32)) => ?_) (fun h240 => ?_)
    · exact absurd h24 (by decide)
    · have h24 : (0 : Int32) = (0 : Int32) := Classical.not_not.mp h240
      refine r_run okX12_readUnit 3 (cs := []) (σ' := (32, [some (.ref 100), some (.int 0)], [.int 3, .int (X 100 26)], (SS b c), X, J, 0, 0)) rfl trivial ?_
      refine r_icmp okX12_readUnit rfl (fun (h32 : (X 100 26) = (3 : Int32)) => ?_) (fun (h32 : ¬ (X 100 26) = (3 : Int32)) => ?_)
      · have hk16 := (toR_nm hR).1.mp h32
        have ev := (toR_nm hR).2 h32
        have hu : uR T n i = .inr ([(0, kV T n i)], i + 1) := by unfold uR; rw [if_pos hk16]
        have hk : ¬ kK T n i = 17 := fun q => by rw [hk16] at q; exact absurd q (by decide)
        refine r_run okX12_readUnit 2 (cs := []) (σ' := (43, [some (.ref 100), some (.int 0)], [.int 0, .ref 100], (SS b c), X, J, 0, 0)) rfl trivial ?_
        refine r_ifc okX12_readUnit rfl (fun (h43 : (0 : Int32) = (0 : Int32)) => ?_) (fun (h43 : ¬ (0 : Int32) = (0 : Int32)) => ?_)
        · refine r_run okX12_readUnit 2 (cs := []) (σ' := (52, [some (.ref 100), some (.int 0)], [.int 0, .int 0, .ref 100], (SS b c), X, J, 0, 0)) rfl trivial ?_
          refine r_ifc okX12_readUnit rfl (fun (h52 : (0 : Int32) = (0 : Int32)) => ?_) (fun (h52 : ¬ (0 : Int32) = (0 : Int32)) => ?_)
          · refine r_run okX12_readUnit 2 (cs := []) (σ' := (69, [some (.ref 100), some (.int 0)], [.int (X 100 27), .int 0, .ref 100], (SS b c), X, J, 0, 0)) rfl trivial ?_
            refine r_callV okX12_readUnit okX12_emits [.int 0, .int (X 100 27)] [] 100 rfl rfl rfl kkX12_emits rfl rfl (by decide) rfl rfl rfl (by decide) ⟨Nat.le_refl _, Nat.le_refl _⟩ (Nat.le_of_ble_eq_true rfl) (c_emits γ l hO (by omega) 0 (X 100 27)) (fun v1 S1 I1 J1 hp => ?_)
            obtain ⟨rfl, rfl, ⟨X1, rfl, f1, o1⟩, rfl⟩ := hp
            show Rj _ _ _ _ _ _ (72, [some (.ref 100), some (.int 0)], [], (SS b c), X1, J, 0, 0)
            refine r_run okX12_readUnit 1 (cs := []) (σ' := (73, [some (.ref 100), some (.int 0)], [.ref 100], (SS b c), X1, J, 0, 0)) rfl trivial ?_
            refine r_callV okX12_readUnit okX12_next [] [] 100 rfl rfl rfl kkX12_next rfl rfl (by decide) rfl rfl rfl (by decide) ⟨Nat.le_refl _, Nat.le_refl _⟩ (Nat.le_of_ble_eq_true rfl) (c_nextT γ hT (PSt_E f1 hP) hk) (fun v1 S1 I1 J1 hp => ?_)
            obtain ⟨rfl, rfl, ⟨X2, rfl, f2, p2⟩, rfl⟩ := hp
            show Rj _ _ _ _ _ _ (76, [some (.ref 100), some (.int 0)], [], (SS b c), X2, J, 0, 0)
            refine r_run okX12_readUnit 1 (cs := []) (σ' := (77, [some (.ref 100), some (.int 0)], [.int 0], (SS b c), X2, J, 0, 0)) rfl trivial ?_
            refine r_iret okX12_readUnit rfl rfl rfl (Nat.le_refl _) (Nat.le_refl _) ?_
            refine ⟨rfl, rfl, ?_⟩
            rw [hu]
            refine ⟨rfl, fr_t (fE_P f1) (f4_P f2), p2, ?_, kp_t (kp_E f1) (kp_4 f2)⟩
            have o2 := Out_4 f2 o1
            rw [ev] at o2
            exact o2
          · exact absurd h52 (by decide)
        · exact absurd h43 (by decide)
      · have hu : uR T n i = .inl (1, i) := by
          unfold uR
          rw [if_neg (fun q => h32 ((toR_nm hR).1.mpr q)), if_neg (fun q => ?_)]
          obtain ⟨q1, q2⟩ := inB_t.mp q
          have r16 : rg 16 (kK T n i) := rg_mono (inB_rg (n := 15) (by decide) (inB_t.mpr ⟨Int32.le_trans (by decide) q1, q2⟩)) (by decide)
          have t2 := (toR_w2 hR).1.mpr r16
          exact h5 t2
        refine r_run okX12_readUnit 2 (cs := []) (σ' := (37, [some (.ref 100), some (.int 0)], [.int 1, .ref 100], (SS b c), X, J, 0, 0)) rfl trivial ?_
        refine r_callV okX12_readUnit okX12_fails [.int 1] [] 100 rfl rfl rfl kkX12_fails rfl rfl (by decide) rfl rfl rfl (by decide) ⟨Nat.le_refl _, Nat.le_refl _⟩ (Nat.le_of_ble_eq_true rfl) (c_fails γ 1) (fun v1 S1 I1 J1 hp => ?_)
        obtain ⟨rfl, rfl, ⟨X1, rfl, f1, e1, e2⟩, rfl⟩ := hp
        show Rj _ _ _ _ _ _ (40, [some (.ref 100), some (.int 0)], [.int (-1)], (SS b c), X1, J, 0, 0)
        refine r_iret okX12_readUnit rfl rfl rfl (Nat.le_refl _) (Nat.le_refl _) ?_
        refine ⟨rfl, rfl, ?_⟩
        rw [hu]
        exact ⟨rfl, fF_P f1, e1, e2.trans hP.2.2.2.2.2.1⟩
  · have h5 : (X 100 26) = (2 : Int32) := Classical.not_not.mp h50
    refine r_run okX12_readUnit 3 (cs := []) (σ' := (14, [some (.ref 100), none], [.int 7, .int (X 100 27)], (SS b c), X, J, 0, 0)) rfl trivial ?_
    refine r_icmp okX12_readUnit rfl (fun (h14 : (X 100 27) < (7 : Int32)) => ?_) (fun (h14 : ¬ (X 100 27) < (7 : Int32)) => ?_)
    · refine r_run okX12_readUnit 3 (cs := []) (σ' := (24, [some (.ref 100), some (.int 0)], [.int 0], (SS b c), X, J, 0, 0)) rfl trivial ?_
      refine r_ifc okX12_readUnit rfl (fun (h24_1 : ¬ (0 : Int32) = (0 : Int32)) => ?_) (fun h24_10 => ?_)
      · exact absurd h24_1 (by decide)
      · have h24_1 : (0 : Int32) = (0 : Int32) := Classical.not_not.mp h24_10
        refine r_run okX12_readUnit 3 (cs := []) (σ' := (32, [some (.ref 100), some (.int 0)], [.int 3, .int (X 100 26)], (SS b c), X, J, 0, 0)) rfl trivial ?_
        refine r_icmp okX12_readUnit rfl (fun (h32_1 : (X 100 26) = (3 : Int32)) => ?_) (fun (h32_1 : ¬ (X 100 26) = (3 : Int32)) => ?_)
        · have hk16 := (toR_nm hR).1.mp h32_1
          have ev := (toR_nm hR).2 h32_1
          have hu : uR T n i = .inr ([(0, kV T n i)], i + 1) := by unfold uR; rw [if_pos hk16]
          have hk : ¬ kK T n i = 17 := fun q => by rw [hk16] at q; exact absurd q (by decide)
          refine r_run okX12_readUnit 2 (cs := []) (σ' := (43, [some (.ref 100), some (.int 0)], [.int 0, .ref 100], (SS b c), X, J, 0, 0)) rfl trivial ?_
          refine r_ifc okX12_readUnit rfl (fun (h43_1 : (0 : Int32) = (0 : Int32)) => ?_) (fun (h43_1 : ¬ (0 : Int32) = (0 : Int32)) => ?_)
          · refine r_run okX12_readUnit 2 (cs := []) (σ' := (52, [some (.ref 100), some (.int 0)], [.int 0, .int 0, .ref 100], (SS b c), X, J, 0, 0)) rfl trivial ?_
            refine r_ifc okX12_readUnit rfl (fun (h52_1 : (0 : Int32) = (0 : Int32)) => ?_) (fun (h52_1 : ¬ (0 : Int32) = (0 : Int32)) => ?_)
            · refine r_run okX12_readUnit 2 (cs := []) (σ' := (69, [some (.ref 100), some (.int 0)], [.int (X 100 27), .int 0, .ref 100], (SS b c), X, J, 0, 0)) rfl trivial ?_
              refine r_callV okX12_readUnit okX12_emits [.int 0, .int (X 100 27)] [] 100 rfl rfl rfl kkX12_emits rfl rfl (by decide) rfl rfl rfl (by decide) ⟨Nat.le_refl _, Nat.le_refl _⟩ (Nat.le_of_ble_eq_true rfl) (c_emits γ l hO (by omega) 0 (X 100 27)) (fun v1 S1 I1 J1 hp => ?_)
              obtain ⟨rfl, rfl, ⟨X1, rfl, f1, o1⟩, rfl⟩ := hp
              show Rj _ _ _ _ _ _ (72, [some (.ref 100), some (.int 0)], [], (SS b c), X1, J, 0, 0)
              refine r_run okX12_readUnit 1 (cs := []) (σ' := (73, [some (.ref 100), some (.int 0)], [.ref 100], (SS b c), X1, J, 0, 0)) rfl trivial ?_
              refine r_callV okX12_readUnit okX12_next [] [] 100 rfl rfl rfl kkX12_next rfl rfl (by decide) rfl rfl rfl (by decide) ⟨Nat.le_refl _, Nat.le_refl _⟩ (Nat.le_of_ble_eq_true rfl) (c_nextT γ hT (PSt_E f1 hP) hk) (fun v1 S1 I1 J1 hp => ?_)
              obtain ⟨rfl, rfl, ⟨X2, rfl, f2, p2⟩, rfl⟩ := hp
              show Rj _ _ _ _ _ _ (76, [some (.ref 100), some (.int 0)], [], (SS b c), X2, J, 0, 0)
              refine r_run okX12_readUnit 1 (cs := []) (σ' := (77, [some (.ref 100), some (.int 0)], [.int 0], (SS b c), X2, J, 0, 0)) rfl trivial ?_
              refine r_iret okX12_readUnit rfl rfl rfl (Nat.le_refl _) (Nat.le_refl _) ?_
              refine ⟨rfl, rfl, ?_⟩
              rw [hu]
              refine ⟨rfl, fr_t (fE_P f1) (f4_P f2), p2, ?_, kp_t (kp_E f1) (kp_4 f2)⟩
              have o2 := Out_4 f2 o1
              rw [ev] at o2
              exact o2
            · exact absurd h52_1 (by decide)
          · exact absurd h43_1 (by decide)
        · have hu : uR T n i = .inl (1, i) := by
            unfold uR
            rw [if_neg (fun q => h32_1 ((toR_nm hR).1.mpr q)), if_neg (fun q => ?_)]
            obtain ⟨q1, q2⟩ := inB_t.mp q
            have r16 : rg 16 (kK T n i) := rg_mono (inB_rg (n := 15) (by decide) (inB_t.mpr ⟨Int32.le_trans (by decide) q1, q2⟩)) (by decide)
            have t2 := (toR_w2 hR).1.mpr r16
            exact absurd h14 (by rw [(toR_w2 hR).2.1 t2]; exact Int32.not_lt.mpr q1)
          refine r_run okX12_readUnit 2 (cs := []) (σ' := (37, [some (.ref 100), some (.int 0)], [.int 1, .ref 100], (SS b c), X, J, 0, 0)) rfl trivial ?_
          refine r_callV okX12_readUnit okX12_fails [.int 1] [] 100 rfl rfl rfl kkX12_fails rfl rfl (by decide) rfl rfl rfl (by decide) ⟨Nat.le_refl _, Nat.le_refl _⟩ (Nat.le_of_ble_eq_true rfl) (c_fails γ 1) (fun v1 S1 I1 J1 hp => ?_)
          obtain ⟨rfl, rfl, ⟨X1, rfl, f1, e1, e2⟩, rfl⟩ := hp
          show Rj _ _ _ _ _ _ (40, [some (.ref 100), some (.int 0)], [.int (-1)], (SS b c), X1, J, 0, 0)
          refine r_iret okX12_readUnit rfl rfl rfl (Nat.le_refl _) (Nat.le_refl _) ?_
          refine ⟨rfl, rfl, ?_⟩
          rw [hu]
          exact ⟨rfl, fF_P f1, e1, e2.trans hP.2.2.2.2.2.1⟩
    · have hk2 := (toR_w2 hR).1.mp h5
      have ev := (toR_w2 hR).2.1 h5
      have hu : uR T n i = .inr ([(1, kK T n i - 7)], i + 1) := by
        unfold uR
        obtain ⟨k, hk, ek⟩ := hk2
        rw [if_neg (by rw [ek]; intro q; exact absurd (nI_inj (a := k) (b := 16) (by omega) (by decide) q) (by omega)), if_pos (inB_t.mpr ⟨by rw [← ev]; exact Int32.not_lt.mp h14, by rw [ek]; exact nI_le (b := 15) (by omega) (by omega)⟩)]
      have hk : ¬ kK T n i = 17 := fun q => by obtain ⟨k, hk, ek⟩ := hk2; rw [ek] at q; exact absurd (nI_inj (a := k) (b := 17) (by omega) (by decide) q) (by omega)
      refine r_run okX12_readUnit 4 (cs := []) (σ' := (24, [some (.ref 100), some (.int 1)], [.int 1], (SS b c), X, J, 0, 0)) rfl trivial ?_
      refine r_ifc okX12_readUnit rfl (fun (h24_2 : ¬ (1 : Int32) = (0 : Int32)) => ?_) (fun h24_20 => ?_)
      · refine r_run okX12_readUnit 2 (cs := []) (σ' := (43, [some (.ref 100), some (.int 1)], [.int 1, .ref 100], (SS b c), X, J, 0, 0)) rfl trivial ?_
        refine r_ifc okX12_readUnit rfl (fun (h43_2 : (1 : Int32) = (0 : Int32)) => ?_) (fun (h43_2 : ¬ (1 : Int32) = (0 : Int32)) => ?_)
        · exact absurd h43_2 (by decide)
        · refine r_run okX12_readUnit 3 (cs := []) (σ' := (52, [some (.ref 100), some (.int 1)], [.int 1, .int 1, .ref 100], (SS b c), X, J, 0, 0)) rfl trivial ?_
          refine r_ifc okX12_readUnit rfl (fun (h52_2 : (1 : Int32) = (0 : Int32)) => ?_) (fun (h52_2 : ¬ (1 : Int32) = (0 : Int32)) => ?_)
          · exact absurd h52_2 (by decide)
          · refine r_run okX12_readUnit 5 (cs := []) (σ' := (69, [some (.ref 100), some (.int 1)], [.int ((X 100 27) - 7), .int 1, .ref 100], (SS b c), X, J, 0, 0)) rfl trivial ?_
            refine r_callV okX12_readUnit okX12_emits [.int 1, .int ((X 100 27) - 7)] [] 100 rfl rfl rfl kkX12_emits rfl rfl (by decide) rfl rfl rfl (by decide) ⟨Nat.le_refl _, Nat.le_refl _⟩ (Nat.le_of_ble_eq_true rfl) (c_emits γ l hO (by omega) 1 ((X 100 27) - 7)) (fun v1 S1 I1 J1 hp => ?_)
            obtain ⟨rfl, rfl, ⟨X1, rfl, f1, o1⟩, rfl⟩ := hp
            show Rj _ _ _ _ _ _ (72, [some (.ref 100), some (.int 1)], [], (SS b c), X1, J, 0, 0)
            refine r_run okX12_readUnit 1 (cs := []) (σ' := (73, [some (.ref 100), some (.int 1)], [.ref 100], (SS b c), X1, J, 0, 0)) rfl trivial ?_
            refine r_callV okX12_readUnit okX12_next [] [] 100 rfl rfl rfl kkX12_next rfl rfl (by decide) rfl rfl rfl (by decide) ⟨Nat.le_refl _, Nat.le_refl _⟩ (Nat.le_of_ble_eq_true rfl) (c_nextT γ hT (PSt_E f1 hP) hk) (fun v1 S1 I1 J1 hp => ?_)
            obtain ⟨rfl, rfl, ⟨X2, rfl, f2, p2⟩, rfl⟩ := hp
            show Rj _ _ _ _ _ _ (76, [some (.ref 100), some (.int 1)], [], (SS b c), X2, J, 0, 0)
            refine r_run okX12_readUnit 1 (cs := []) (σ' := (77, [some (.ref 100), some (.int 1)], [.int 0], (SS b c), X2, J, 0, 0)) rfl trivial ?_
            refine r_iret okX12_readUnit rfl rfl rfl (Nat.le_refl _) (Nat.le_refl _) ?_
            refine ⟨rfl, rfl, ?_⟩
            rw [hu]
            refine ⟨rfl, fr_t (fE_P f1) (f4_P f2), p2, ?_, kp_t (kp_E f1) (kp_4 f2)⟩
            have o2 := Out_4 f2 o1
            rw [ev] at o2
            exact o2
      · have h24_2 : (1 : Int32) = (0 : Int32) := Classical.not_not.mp h24_20
        exact absurd h24_2 (by decide)
theorem lp_pd (γ : GE) {b c : Bool} {X : AI} {J : AJ} {T : Nat → Int32} {n : Nat} {l : List (Int32 × Int32)} (hT : TpOK T n) (res : PR) : ∀ (f i : Nat) (acc : Cd) (Y : AI), PdT T n f i acc res → PSt T n Y i → Out Y (l ++ flt acc) → (l ++ flt acc).length ≤ i → fr qP X Y → kp X Y → Rj γ mX12_readProduct 4 0 0 (fun r S' I' J' => (SS b c) = S' ∧ J = J' ∧ RsP T n X l res r I') (10, [some (.ref 100), none], [], (SS b c), Y, J, 0, 0) := by
  intro f
  induction f with
  | zero => intro i acc Y hd; exact hd.elim
  | succ f ih =>
    intro i acc Y hd hP hO hl hf hkp
    unfold PdT at hd
    by_cases k42 : kK T n i = 42
    · rw [if_pos k42] at hd
      refine r_run okX12_readProduct 2 (cs := []) (σ' := (13, [some (.ref 100), none], [.int 42, .ref 100], (SS b c), Y, J, 0, 0)) rfl trivial ?_
      refine r_callV okX12_readProduct okX12_isSign [.int 42] [] 100 rfl rfl rfl kkX12_isSign rfl rfl (by decide) rfl rfl rfl (by decide) ⟨Nat.le_refl _, Nat.le_refl _⟩ (Nat.le_of_ble_eq_true rfl) (c_isSign1 γ hP 42 rfl k42) (fun v1 S1 I1 J1 hp => ?_)
      obtain ⟨rfl, rfl, rfl, rfl⟩ := hp
      show Rj _ _ _ _ _ _ (16, [some (.ref 100), none], [.int 1], (SS b c), Y, J, 0, 0)
      refine r_ifc okX12_readProduct rfl (fun (h16 : ¬ (1 : Int32) = (0 : Int32)) => ?_) (fun h160 => ?_)
      · refine r_run okX12_readProduct 2 (cs := []) (σ' := (31, [some (.ref 100), none], [.int 42, .ref 100], (SS b c), Y, J, 0, 0)) rfl trivial ?_
        refine r_callV okX12_readProduct okX12_isSign [.int 42] [] 100 rfl rfl rfl kkX12_isSign rfl rfl (by decide) rfl rfl rfl (by decide) ⟨Nat.le_refl _, Nat.le_refl _⟩ (Nat.le_of_ble_eq_true rfl) (c_isSign1 γ hP 42 rfl k42) (fun v1 S1 I1 J1 hp => ?_)
        obtain ⟨rfl, rfl, rfl, rfl⟩ := hp
        show Rj _ _ _ _ _ _ (34, [some (.ref 100), none], [.int 1], (SS b c), Y, J, 0, 0)
        refine r_run okX12_readProduct 2 (cs := []) (σ' := (36, [some (.ref 100), some (.int 1)], [.ref 100], (SS b c), Y, J, 0, 0)) rfl trivial ?_
        refine r_callV okX12_readProduct okX12_next [] [] 100 rfl rfl rfl kkX12_next rfl rfl (by decide) rfl rfl rfl (by decide) ⟨Nat.le_refl _, Nat.le_refl _⟩ (Nat.le_of_ble_eq_true rfl) (c_nextT γ hT hP (by rw [k42]; decide)) (fun v1 S1 I1 J1 hp => ?_)
        obtain ⟨rfl, rfl, ⟨X1, rfl, f1, p1⟩, rfl⟩ := hp
        show Rj _ _ _ _ _ _ (39, [some (.ref 100), some (.int 1)], [], (SS b c), X1, J, 0, 0)
        refine r_run okX12_readProduct 1 (cs := []) (σ' := (40, [some (.ref 100), some (.int 1)], [.int 1], (SS b c), X1, J, 0, 0)) rfl trivial ?_
        refine r_ifc okX12_readProduct rfl (fun (h40 : ¬ (1 : Int32) = (0 : Int32)) => ?_) (fun h400 => ?_)
        · refine r_run okX12_readProduct 1 (cs := []) (σ' := (58, [some (.ref 100), some (.int 1)], [.int 1], (SS b c), X1, J, 0, 0)) rfl trivial ?_
          refine r_ifc okX12_readProduct rfl (fun (h58 : ¬ (1 : Int32) = (0 : Int32)) => ?_) (fun h580 => ?_)
          · cases hu : uR T n (i + 1) with
            | inl e =>
              rw [hu] at hd
              refine r_run okX12_readProduct 1 (cs := []) (σ' := (75, [some (.ref 100), some (.int 1)], [.ref 100], (SS b c), X1, J, 0, 0)) rfl trivial ?_
              refine r_callV okX12_readProduct okX12_readUnit [] [] 100 rfl rfl rfl kkX12_readUnit rfl rfl (by decide) rfl rfl rfl (by decide) ⟨Nat.le_refl _, Nat.le_refl _⟩ (Nat.le_of_ble_eq_true rfl) (ct_F γ hu (c_readUnit γ hT p1 (Out_4 f1 hO) (by omega))) (fun v1 S1 I1 J1 hp => ?_)
              obtain ⟨rfl, rfl, ⟨X2, rfl, f2, e1, e2⟩, rfl⟩ := hp
              show Rj _ _ _ _ _ _ (78, [some (.ref 100), some (.int 1)], [.int (-1)], (SS b c), X2, J, 0, 0)
              refine r_run okX12_readProduct 1 (cs := []) (σ' := (79, [some (.ref 100), some (.int 1)], [.int (-1), .int (-1)], (SS b c), X2, J, 0, 0)) rfl trivial ?_
              refine r_icmp okX12_readProduct rfl (fun (h79 : ¬ ((-1) : Int32) = ((-1) : Int32)) => ?_) (fun h790 => ?_)
              · exact absurd h79 (by decide)
              · have h79 : ((-1) : Int32) = ((-1) : Int32) := Classical.not_not.mp h790
                refine r_run okX12_readProduct 1 (cs := []) (σ' := (83, [some (.ref 100), some (.int 1)], [.int (-1)], (SS b c), X2, J, 0, 0)) rfl trivial ?_
                refine r_iret okX12_readProduct rfl rfl rfl (Nat.le_refl _) (Nat.le_refl _) ?_
                refine ⟨rfl, rfl, ?_⟩
                rw [hd]
                exact ⟨rfl, fr_t hf (fr_t (f4_P f1) f2), e1, e2⟩
            | inr q =>
              rw [hu] at hd
              refine r_run okX12_readProduct 1 (cs := []) (σ' := (75, [some (.ref 100), some (.int 1)], [.ref 100], (SS b c), X1, J, 0, 0)) rfl trivial ?_
              refine r_callV okX12_readProduct okX12_readUnit [] [] 100 rfl rfl rfl kkX12_readUnit rfl rfl (by decide) rfl rfl rfl (by decide) ⟨Nat.le_refl _, Nat.le_refl _⟩ (Nat.le_of_ble_eq_true rfl) (ct_S γ hu (c_readUnit γ hT p1 (Out_4 f1 hO) (by omega))) (fun v1 S1 I1 J1 hp => ?_)
              obtain ⟨rfl, rfl, ⟨X2, rfl, f2, p2, o2, kp2⟩, rfl⟩ := hp
              have hul := uR_len hu
              rw [List.append_assoc, ← flt_app] at o2
              show Rj _ _ _ _ _ _ (78, [some (.ref 100), some (.int 1)], [.int 0], (SS b c), X2, J, 0, 0)
              refine r_run okX12_readProduct 1 (cs := []) (σ' := (79, [some (.ref 100), some (.int 1)], [.int (-1), .int 0], (SS b c), X2, J, 0, 0)) rfl trivial ?_
              refine r_icmp okX12_readProduct rfl (fun (h79 : ¬ (0 : Int32) = ((-1) : Int32)) => ?_) (fun h790 => ?_)
              · refine r_run okX12_readProduct 2 (cs := []) (σ' := (86, [some (.ref 100), some (.int 1)], [.int 1, .ref 100], (SS b c), X2, J, 0, 0)) rfl trivial ?_
                refine r_ifc okX12_readProduct rfl (fun (h86 : (1 : Int32) = (0 : Int32)) => ?_) (fun (h86 : ¬ (1 : Int32) = (0 : Int32)) => ?_)
                · exact absurd h86 (by decide)
                · refine r_run okX12_readProduct 3 (cs := []) (σ' := (95, [some (.ref 100), some (.int 1)], [.int 0, .int 4, .ref 100], (SS b c), X2, J, 0, 0)) rfl trivial ?_
                  refine r_callV okX12_readProduct okX12_emits [.int 4, .int 0] [] 100 rfl rfl rfl kkX12_emits rfl rfl (by decide) rfl rfl rfl (by decide) ⟨Nat.le_refl _, Nat.le_refl _⟩ (Nat.le_of_ble_eq_true rfl) (c_emits γ _ o2 (by rw [flt_app, ← List.append_assoc, List.length_append, hul.2]; have := hT.1; have := hP.2.2.2.1; omega) 4 0) (fun v1 S1 I1 J1 hp => ?_)
                  obtain ⟨rfl, rfl, ⟨X3, rfl, f3, o3⟩, rfl⟩ := hp
                  show Rj _ _ _ _ _ _ (98, [some (.ref 100), some (.int 1)], [], (SS b c), X3, J, 0, 0)
                  refine r_run okX12_readProduct 1 (cs := []) (σ' := (10, [some (.ref 100), some (.int 1)], [], (SS b c), X3, J, 0, 0)) rfl trivial ?_
                  refine r_weak (L' := [some (.ref 100), none]) ⟨rfl, trivial⟩ ?_
                  refine ih q.2 (acc ++ q.1 ++ [(4, 0)]) X3 hd (PSt_E f3 p2) ?_ ?_ (fr_t hf (fr_t (f4_P f1) (fr_t f2 (fE_P f3)))) (kp_t hkp (kp_t (kp_4 f1) (kp_t kp2 (kp_E f3))))
                  · rw [flt_app, ← List.append_assoc]; exact o3
                  · rw [flt_app, flt_app, ← List.append_assoc, ← List.append_assoc, List.length_append, List.length_append, hul.1, hul.2, flt_l1 (by decide)]; omega
              · have h79 : (0 : Int32) = ((-1) : Int32) := Classical.not_not.mp h790
                exact absurd h79 (by decide)
          · have h58 : (1 : Int32) = (0 : Int32) := Classical.not_not.mp h580
            exact absurd h58 (by decide)
        · have h40 : (1 : Int32) = (0 : Int32) := Classical.not_not.mp h400
          exact absurd h40 (by decide)
      · have h16 : (1 : Int32) = (0 : Int32) := Classical.not_not.mp h160
        exact absurd h16 (by decide)
    · rw [if_neg k42] at hd
      by_cases k47 : kK T n i = 47
      · rw [if_pos k47] at hd
        refine r_run okX12_readProduct 2 (cs := []) (σ' := (13, [some (.ref 100), none], [.int 42, .ref 100], (SS b c), Y, J, 0, 0)) rfl trivial ?_
        refine r_callV okX12_readProduct okX12_isSign [.int 42] [] 100 rfl rfl rfl kkX12_isSign rfl rfl (by decide) rfl rfl rfl (by decide) ⟨Nat.le_refl _, Nat.le_refl _⟩ (Nat.le_of_ble_eq_true rfl) (c_isSign0 γ hP 42 rfl k42) (fun v1 S1 I1 J1 hp => ?_)
        obtain ⟨rfl, rfl, rfl, rfl⟩ := hp
        show Rj _ _ _ _ _ _ (16, [some (.ref 100), none], [.int 0], (SS b c), Y, J, 0, 0)
        refine r_ifc okX12_readProduct rfl (fun (h16 : ¬ (0 : Int32) = (0 : Int32)) => ?_) (fun h160 => ?_)
        · exact absurd h16 (by decide)
        · have h16 : (0 : Int32) = (0 : Int32) := Classical.not_not.mp h160
          refine r_run okX12_readProduct 2 (cs := []) (σ' := (22, [some (.ref 100), none], [.int 47, .ref 100], (SS b c), Y, J, 0, 0)) rfl trivial ?_
          refine r_callV okX12_readProduct okX12_isSign [.int 47] [] 100 rfl rfl rfl kkX12_isSign rfl rfl (by decide) rfl rfl rfl (by decide) ⟨Nat.le_refl _, Nat.le_refl _⟩ (Nat.le_of_ble_eq_true rfl) (c_isSign1 γ hP 47 rfl k47) (fun v1 S1 I1 J1 hp => ?_)
          obtain ⟨rfl, rfl, rfl, rfl⟩ := hp
          show Rj _ _ _ _ _ _ (25, [some (.ref 100), none], [.int 1], (SS b c), Y, J, 0, 0)
          refine r_ifc okX12_readProduct rfl (fun (h25 : (1 : Int32) = (0 : Int32)) => ?_) (fun (h25 : ¬ (1 : Int32) = (0 : Int32)) => ?_)
          · exact absurd h25 (by decide)
          · refine r_run okX12_readProduct 2 (cs := []) (σ' := (31, [some (.ref 100), none], [.int 42, .ref 100], (SS b c), Y, J, 0, 0)) rfl trivial ?_
            refine r_callV okX12_readProduct okX12_isSign [.int 42] [] 100 rfl rfl rfl kkX12_isSign rfl rfl (by decide) rfl rfl rfl (by decide) ⟨Nat.le_refl _, Nat.le_refl _⟩ (Nat.le_of_ble_eq_true rfl) (c_isSign0 γ hP 42 rfl k42) (fun v1 S1 I1 J1 hp => ?_)
            obtain ⟨rfl, rfl, rfl, rfl⟩ := hp
            show Rj _ _ _ _ _ _ (34, [some (.ref 100), none], [.int 0], (SS b c), Y, J, 0, 0)
            refine r_run okX12_readProduct 2 (cs := []) (σ' := (36, [some (.ref 100), some (.int 0)], [.ref 100], (SS b c), Y, J, 0, 0)) rfl trivial ?_
            refine r_callV okX12_readProduct okX12_next [] [] 100 rfl rfl rfl kkX12_next rfl rfl (by decide) rfl rfl rfl (by decide) ⟨Nat.le_refl _, Nat.le_refl _⟩ (Nat.le_of_ble_eq_true rfl) (c_nextT γ hT hP (by rw [k47]; decide)) (fun v1 S1 I1 J1 hp => ?_)
            obtain ⟨rfl, rfl, ⟨X1, rfl, f1, p1⟩, rfl⟩ := hp
            have hR1 := p1.2.2.2.2.2.2
            show Rj _ _ _ _ _ _ (39, [some (.ref 100), some (.int 0)], [], (SS b c), X1, J, 0, 0)
            refine r_run okX12_readProduct 1 (cs := []) (σ' := (40, [some (.ref 100), some (.int 0)], [.int 0], (SS b c), X1, J, 0, 0)) rfl trivial ?_
            refine r_ifc okX12_readProduct rfl (fun (h40 : ¬ (0 : Int32) = (0 : Int32)) => ?_) (fun h400 => ?_)
            · exact absurd h40 (by decide)
            · have h40 : (0 : Int32) = (0 : Int32) := Classical.not_not.mp h400
              refine r_run okX12_readProduct 3 (cs := []) (σ' := (48, [some (.ref 100), some (.int 0)], [.int 3, .int (X1 100 26)], (SS b c), X1, J, 0, 0)) rfl trivial ?_
              refine r_icmp okX12_readProduct rfl (fun (h48 : (X1 100 26) = (3 : Int32)) => ?_) (fun (h48 : ¬ (X1 100 26) = (3 : Int32)) => ?_)
              · have k16 := (toR_nm hR1).1.mp h48
                have ev := (toR_nm hR1).2 h48
                rw [if_pos k16] at hd
                have hu : uR T n (i + 1) = .inr ([(0, kV T n (i + 1))], i + 2) := by unfold uR; rw [if_pos k16]
                refine r_run okX12_readProduct 1 (cs := []) (σ' := (58, [some (.ref 100), some (.int 0)], [.int 0], (SS b c), X1, J, 0, 0)) rfl trivial ?_
                refine r_ifc okX12_readProduct rfl (fun (h58 : ¬ (0 : Int32) = (0 : Int32)) => ?_) (fun h580 => ?_)
                · exact absurd h58 (by decide)
                · have h58 : (0 : Int32) = (0 : Int32) := Classical.not_not.mp h580
                  refine r_run okX12_readProduct 2 (cs := []) (σ' := (65, [some (.ref 100), some (.int 0)], [.int (X1 100 27)], (SS b c), X1, J, 0, 0)) rfl trivial ?_
                  refine r_ifc okX12_readProduct rfl (fun (h65 : ¬ (X1 100 27) = (0 : Int32)) => ?_) (fun h650 => ?_)
                  · rw [if_neg (fun q => h65 (ev.trans q))] at hd
                    refine r_run okX12_readProduct 1 (cs := []) (σ' := (75, [some (.ref 100), some (.int 0)], [.ref 100], (SS b c), X1, J, 0, 0)) rfl trivial ?_
                    refine r_callV okX12_readProduct okX12_readUnit [] [] 100 rfl rfl rfl kkX12_readUnit rfl rfl (by decide) rfl rfl rfl (by decide) ⟨Nat.le_refl _, Nat.le_refl _⟩ (Nat.le_of_ble_eq_true rfl) (ct_S γ hu (c_readUnit γ hT p1 (Out_4 f1 hO) (by omega))) (fun v1 S1 I1 J1 hp => ?_)
                    obtain ⟨rfl, rfl, ⟨X2, rfl, f2, p2, o2, kp2⟩, rfl⟩ := hp
                    show Rj _ _ _ _ _ _ (78, [some (.ref 100), some (.int 0)], [.int 0], (SS b c), X2, J, 0, 0)
                    refine r_run okX12_readProduct 1 (cs := []) (σ' := (79, [some (.ref 100), some (.int 0)], [.int (-1), .int 0], (SS b c), X2, J, 0, 0)) rfl trivial ?_
                    refine r_icmp okX12_readProduct rfl (fun (h79 : ¬ (0 : Int32) = ((-1) : Int32)) => ?_) (fun h790 => ?_)
                    · refine r_run okX12_readProduct 2 (cs := []) (σ' := (86, [some (.ref 100), some (.int 0)], [.int 0, .ref 100], (SS b c), X2, J, 0, 0)) rfl trivial ?_
                      refine r_ifc okX12_readProduct rfl (fun (h86 : (0 : Int32) = (0 : Int32)) => ?_) (fun (h86 : ¬ (0 : Int32) = (0 : Int32)) => ?_)
                      · refine r_run okX12_readProduct 2 (cs := []) (σ' := (95, [some (.ref 100), some (.int 0)], [.int 0, .int 5, .ref 100], (SS b c), X2, J, 0, 0)) rfl trivial ?_
                        refine r_callV okX12_readProduct okX12_emits [.int 5, .int 0] [] 100 rfl rfl rfl kkX12_emits rfl rfl (by decide) rfl rfl rfl (by decide) ⟨Nat.le_refl _, Nat.le_refl _⟩ (Nat.le_of_ble_eq_true rfl) (c_emits γ _ o2 (by rw [List.length_append]; have : (flt ([((0 : Int32), kV T n (i + 1))], i + 2).1).length = 1 := rfl; have := hT.1; have := hP.2.2.2.1; omega) 5 0) (fun v1 S1 I1 J1 hp => ?_)
                        obtain ⟨rfl, rfl, ⟨X3, rfl, f3, o3⟩, rfl⟩ := hp
                        show Rj _ _ _ _ _ _ (98, [some (.ref 100), some (.int 0)], [], (SS b c), X3, J, 0, 0)
                        refine r_run okX12_readProduct 1 (cs := []) (σ' := (10, [some (.ref 100), some (.int 0)], [], (SS b c), X3, J, 0, 0)) rfl trivial ?_
                        refine r_weak (L' := [some (.ref 100), none]) ⟨rfl, trivial⟩ ?_
                        refine ih (i + 2) (acc ++ [(5, kV T n (i + 1))]) X3 hd (PSt_E f3 p2) ?_ ?_ (fr_t hf (fr_t (f4_P f1) (fr_t f2 (fE_P f3)))) (kp_t hkp (kp_t (kp_4 f1) (kp_t kp2 (kp_E f3))))
                        · rw [flt_app, ← List.append_assoc]; rw [List.append_assoc] at o3; exact o3
                        · rw [flt_app, ← List.append_assoc, List.length_append, flt_l2]; omega
                      · exact absurd h86 (by decide)
                    · have h79 : (0 : Int32) = ((-1) : Int32) := Classical.not_not.mp h790
                      exact absurd h79 (by decide)
                  · have h65 : (X1 100 27) = (0 : Int32) := Classical.not_not.mp h650
                    rw [if_pos (ev.symm.trans h65)] at hd
                    refine r_run okX12_readProduct 2 (cs := []) (σ' := (70, [some (.ref 100), some (.int 0)], [.int 2, .ref 100], (SS b c), X1, J, 0, 0)) rfl trivial ?_
                    refine r_callV okX12_readProduct okX12_fails [.int 2] [] 100 rfl rfl rfl kkX12_fails rfl rfl (by decide) rfl rfl rfl (by decide) ⟨Nat.le_refl _, Nat.le_refl _⟩ (Nat.le_of_ble_eq_true rfl) (c_fails γ 2) (fun v1 S1 I1 J1 hp => ?_)
                    obtain ⟨rfl, rfl, ⟨X2, rfl, f2, e1, e2⟩, rfl⟩ := hp
                    show Rj _ _ _ _ _ _ (73, [some (.ref 100), some (.int 0)], [.int (-1)], (SS b c), X2, J, 0, 0)
                    refine r_iret okX12_readProduct rfl rfl rfl (Nat.le_refl _) (Nat.le_refl _) ?_
                    refine ⟨rfl, rfl, ?_⟩
                    rw [hd]
                    exact ⟨rfl, fr_t hf (fr_t (f4_P f1) (fF_P f2)), e1, e2.trans p1.2.2.2.2.2.1⟩
              · rw [if_neg (fun q => h48 ((toR_nm hR1).1.mpr q))] at hd
                refine r_run okX12_readProduct 2 (cs := []) (σ' := (53, [some (.ref 100), some (.int 0)], [.int 1, .ref 100], (SS b c), X1, J, 0, 0)) rfl trivial ?_
                refine r_callV okX12_readProduct okX12_fails [.int 1] [] 100 rfl rfl rfl kkX12_fails rfl rfl (by decide) rfl rfl rfl (by decide) ⟨Nat.le_refl _, Nat.le_refl _⟩ (Nat.le_of_ble_eq_true rfl) (c_fails γ 1) (fun v1 S1 I1 J1 hp => ?_)
                obtain ⟨rfl, rfl, ⟨X2, rfl, f2, e1, e2⟩, rfl⟩ := hp
                show Rj _ _ _ _ _ _ (56, [some (.ref 100), some (.int 0)], [.int (-1)], (SS b c), X2, J, 0, 0)
                refine r_iret okX12_readProduct rfl rfl rfl (Nat.le_refl _) (Nat.le_refl _) ?_
                refine ⟨rfl, rfl, ?_⟩
                rw [hd]
                exact ⟨rfl, fr_t hf (fr_t (f4_P f1) (fF_P f2)), e1, e2.trans p1.2.2.2.2.2.1⟩
      · rw [if_neg k47] at hd
        refine r_run okX12_readProduct 2 (cs := []) (σ' := (13, [some (.ref 100), none], [.int 42, .ref 100], (SS b c), Y, J, 0, 0)) rfl trivial ?_
        refine r_callV okX12_readProduct okX12_isSign [.int 42] [] 100 rfl rfl rfl kkX12_isSign rfl rfl (by decide) rfl rfl rfl (by decide) ⟨Nat.le_refl _, Nat.le_refl _⟩ (Nat.le_of_ble_eq_true rfl) (c_isSign0 γ hP 42 rfl k42) (fun v1 S1 I1 J1 hp => ?_)
        obtain ⟨rfl, rfl, rfl, rfl⟩ := hp
        show Rj _ _ _ _ _ _ (16, [some (.ref 100), none], [.int 0], (SS b c), Y, J, 0, 0)
        refine r_ifc okX12_readProduct rfl (fun (h16 : ¬ (0 : Int32) = (0 : Int32)) => ?_) (fun h160 => ?_)
        · exact absurd h16 (by decide)
        · have h16 : (0 : Int32) = (0 : Int32) := Classical.not_not.mp h160
          refine r_run okX12_readProduct 2 (cs := []) (σ' := (22, [some (.ref 100), none], [.int 47, .ref 100], (SS b c), Y, J, 0, 0)) rfl trivial ?_
          refine r_callV okX12_readProduct okX12_isSign [.int 47] [] 100 rfl rfl rfl kkX12_isSign rfl rfl (by decide) rfl rfl rfl (by decide) ⟨Nat.le_refl _, Nat.le_refl _⟩ (Nat.le_of_ble_eq_true rfl) (c_isSign0 γ hP 47 rfl k47) (fun v1 S1 I1 J1 hp => ?_)
          obtain ⟨rfl, rfl, rfl, rfl⟩ := hp
          show Rj _ _ _ _ _ _ (25, [some (.ref 100), none], [.int 0], (SS b c), Y, J, 0, 0)
          refine r_ifc okX12_readProduct rfl (fun (h25 : (0 : Int32) = (0 : Int32)) => ?_) (fun (h25 : ¬ (0 : Int32) = (0 : Int32)) => ?_)
          · refine r_run okX12_readProduct 1 (cs := []) (σ' := (102, [some (.ref 100), none], [.int 0], (SS b c), Y, J, 0, 0)) rfl trivial ?_
            refine r_iret okX12_readProduct rfl rfl rfl (Nat.le_refl _) (Nat.le_refl _) ?_
            refine ⟨rfl, rfl, ?_⟩
            rw [hd]
            exact ⟨rfl, hf, hP, hO, hkp⟩
          · exact absurd h25 (by decide)
theorem c_readProduct (γ : GE) {b c : Bool} {X : AI} {J : AJ} {T : Nat → Int32} {n i : Nat} {l : List (Int32 × Int32)} (hT : TpOK T n) (hP : PSt T n X i) (hO : Out X l) (hl : l.length ≤ i) (res : PR) (hd : Pd T n i res) : Ct γ mX12_readProduct 4 0 0 [.ref 100] (SS b c) X J (fun r S' I' J' => (SS b c) = S' ∧ J = J' ∧ RsP T n X l res r I') := by
  refine ct_of okX12_readProduct (L := [some (.ref 100), none]) (Nat.le_of_ble_eq_true rfl) rfl ?_
  unfold Pd at hd
  cases hu : uR T n i with
  | inl e =>
    rw [hu] at hd
    refine r_run okX12_readProduct 1 (cs := []) (σ' := (1, [some (.ref 100), none], [.ref 100], (SS b c), X, J, 0, 0)) rfl trivial ?_
    refine r_callV okX12_readProduct okX12_readUnit [] [] 100 rfl rfl rfl kkX12_readUnit rfl rfl (by decide) rfl rfl rfl (by decide) ⟨Nat.le_refl _, Nat.le_refl _⟩ (Nat.le_of_ble_eq_true rfl) (ct_F γ hu (c_readUnit γ hT hP hO hl)) (fun v1 S1 I1 J1 hp => ?_)
    obtain ⟨rfl, rfl, ⟨X1, rfl, f1, e1, e2⟩, rfl⟩ := hp
    show Rj _ _ _ _ _ _ (4, [some (.ref 100), none], [.int (-1)], (SS b c), X1, J, 0, 0)
    refine r_run okX12_readProduct 1 (cs := []) (σ' := (5, [some (.ref 100), none], [.int (-1), .int (-1)], (SS b c), X1, J, 0, 0)) rfl trivial ?_
    refine r_icmp okX12_readProduct rfl (fun (h5 : ¬ ((-1) : Int32) = ((-1) : Int32)) => ?_) (fun h50 => ?_)
    · exact absurd h5 (by decide)
    · have h5 : ((-1) : Int32) = ((-1) : Int32) := Classical.not_not.mp h50
      refine r_run okX12_readProduct 1 (cs := []) (σ' := (9, [some (.ref 100), none], [.int (-1)], (SS b c), X1, J, 0, 0)) rfl trivial ?_
      refine r_iret okX12_readProduct rfl rfl rfl (Nat.le_refl _) (Nat.le_refl _) ?_
      refine ⟨rfl, rfl, ?_⟩
      rw [hd]
      exact ⟨rfl, f1, e1, e2⟩
  | inr q =>
    rw [hu] at hd
    refine r_run okX12_readProduct 1 (cs := []) (σ' := (1, [some (.ref 100), none], [.ref 100], (SS b c), X, J, 0, 0)) rfl trivial ?_
    refine r_callV okX12_readProduct okX12_readUnit [] [] 100 rfl rfl rfl kkX12_readUnit rfl rfl (by decide) rfl rfl rfl (by decide) ⟨Nat.le_refl _, Nat.le_refl _⟩ (Nat.le_of_ble_eq_true rfl) (ct_S γ hu (c_readUnit γ hT hP hO hl)) (fun v1 S1 I1 J1 hp => ?_)
    obtain ⟨rfl, rfl, ⟨X1, rfl, f1, p1, o1, k1⟩, rfl⟩ := hp
    show Rj _ _ _ _ _ _ (4, [some (.ref 100), none], [.int 0], (SS b c), X1, J, 0, 0)
    refine r_run okX12_readProduct 1 (cs := []) (σ' := (5, [some (.ref 100), none], [.int (-1), .int 0], (SS b c), X1, J, 0, 0)) rfl trivial ?_
    refine r_icmp okX12_readProduct rfl (fun (h5 : ¬ (0 : Int32) = ((-1) : Int32)) => ?_) (fun h50 => ?_)
    · obtain ⟨f, hd⟩ := hd
      have hul := uR_len hu
      exact lp_pd γ hT res f q.2 q.1 X1 hd p1 o1 (by rw [List.length_append, hul.2]; omega) f1 k1
    · have h5 : (0 : Int32) = ((-1) : Int32) := Classical.not_not.mp h50
      exact absurd h5 (by decide)
