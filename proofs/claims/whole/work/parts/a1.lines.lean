/-! ===== the office reads: lines; the whole tape ===== -/
def qN (A m a b : Nat) : Bool := ((a == A + 3 || (a == A + 4 || (a == A + 5 || a == A + 6))) && b == m) || (a == A && b == 8)
def qL5 (A m a b : Nat) : Bool := qX A a b || qN A m a b
theorem fX_L {A m : Nat} {X Y : AI} (h : fr (qX A) X Y) : fr (qL5 A m) X Y := fr_m (fun a b z => by unfold qL5 at z; rw [Bool.or_eq_false_iff] at z; exact z.1) h
theorem fN_L {A m : Nat} {X Y : AI} (h : fr (qN A m) X Y) : fr (qL5 A m) X Y := fr_m (fun a b z => by unfold qL5 at z; rw [Bool.or_eq_false_iff] at z; exact z.2) h
theorem qN_o {A m : Nat} {a : Nat} (ha : ¬ (A ≤ a ∧ a ≤ A + 6)) (b : Nat) : qN A m a b = false := by
  unfold qN
  rw [show (a == A + 3) = false from beq_eq_false_iff_ne.mpr (by omega), show (a == A + 4) = false from beq_eq_false_iff_ne.mpr (by omega), show (a == A + 5) = false from beq_eq_false_iff_ne.mpr (by omega), show (a == A + 6) = false from beq_eq_false_iff_ne.mpr (by omega), show (a == A) = false from beq_eq_false_iff_ne.mpr (by omega)]; rfl
theorem Tkn_N {T : Nat → Int32} {n N A m : Nat} {X Y : AI} (hA : A = 79 ∨ A = 87) (h : fr (qN A m) X Y) (hT : Tkn T n N X) : Tkn T n N Y := by
  unfold Tkn
  rw [fr_c h 97 (qN_o (by omega)), fr_c h 98 (qN_o (by omega)), fr_c h 99 (qN_o (by omega))]; exact hT
theorem PsO_N {T : Nat → Int32} {n N A m i : Nat} {X Y : AI} (hA : A = 79 ∨ A = 87) (h : fr (qN A m) X Y) (hP : PsO T n N X i) : PsO T n N Y i := by
  unfold PsO; rw [fr_c h 95 (qN_o (by omega))]; exact hP
theorem qN_1 {A m : Nat} (b : Nat) : qN A m (A + 1) b = false ∧ qN A m (A + 2) b = false ∧ qN A m A 7 = false := by
  unfold qN
  refine ⟨?_, ?_, ?_⟩ <;> simp
theorem OuO_N {A m : Nat} {l : Cd} {X Y : AI} (h : fr (qN A m) X Y) (hO : OuO X A l) : OuO Y A l :=
  ⟨(h A 7 (qN_1 0).2.2).trans hO.1, cdT_k (fr_c h (A + 1) (fun b => (qN_1 b).1)) (fr_c h (A + 2) (fun b => (qN_1 b).2.1)) hO.2⟩
theorem qX_N {A : Nat} (hA : A = 79 ∨ A = 87) (b : Nat) : qX A (A + 3) b = false ∧ qX A (A + 4) b = false ∧ qX A (A + 5) b = false ∧ qX A (A + 6) b = false ∧ qX A A 8 = false := by rcases hA with rfl | rfl <;> exact ⟨rfl, rfl, rfl, rfl, rfl⟩
abbrev RLn : Type := (Int32 × Nat) ⊕ (Ln × Nat)
def RdBL (T : Nat → Int32) (n : Nat) (a : Int32) (q : Cd × Nat) (res : RLn) : Prop :=
  (¬ kK T n q.2 = 3 ∧ res = .inl (1, q.2)) ∨ (kK T n q.2 = 3 ∧ ∃ r2, An T n (Cn T n 8) (q.2 + 1) r2 ∧ ((∃ e, r2 = .inl e ∧ res = .inl e) ∨ ∃ u, r2 = .inr u ∧ ((¬ kK T n u.2 = 59 ∧ res = .inl (1, u.2)) ∨ (kK T n u.2 = 59 ∧ res = .inr ((a, q.1, u.1), u.2 + 1)))))
def RdL (T : Nat → Int32) (n m i : Nat) (res : RLn) : Prop := if inB (kK T n i) 0 2 then (if m = 16 then res = .inl (3, i) else ∃ r1, LnE T n (kK T n i) (i + 1) r1 ∧ ((∃ e, r1 = .inl e ∧ res = .inl e) ∨ ∃ q, r1 = .inr q ∧ RdBL T n (kK T n i) q res)) else res = .inl (1, i)
theorem RdL_f {T : Nat → Int32} {n i f : Nat} {acc : List Ln} {e : Int32 × Nat} (h : RdL T n acc.length i (.inl e)) (h17 : ¬ kK T n i = 17) : RdT T n (f + 1) i acc (.inl e) := by
  unfold RdL at h; unfold RdT
  split at h
  · rename_i g; rw [if_pos g]
    split at h
    · rename_i g2; rw [if_pos g2]; cases h; rfl
    · rename_i g2; rw [if_neg g2]
      obtain ⟨r1, h1, h2⟩ := h
      refine ⟨r1, h1, ?_⟩
      rcases h2 with ⟨e1, a1, a2⟩ | ⟨q, a1, a2⟩
      · cases a2; exact Or.inl ⟨e, a1, rfl⟩
      · refine Or.inr ⟨q, a1, ?_⟩
        unfold RdBL at a2; unfold RdB
        rcases a2 with ⟨b1, b2⟩ | ⟨b1, r2, b2, b3⟩
        · cases b2; exact Or.inl ⟨b1, rfl⟩
        · refine Or.inr ⟨b1, r2, b2, ?_⟩
          rcases b3 with ⟨e1, c1, c2⟩ | ⟨u, c1, c2⟩
          · cases c2; exact Or.inl ⟨e, c1, rfl⟩
          · refine Or.inr ⟨u, c1, ?_⟩
            rcases c2 with ⟨d1, d2⟩ | ⟨d1, d2⟩
            · cases d2; exact Or.inl ⟨d1, rfl⟩
            · cases d2
  · rename_i g; rw [if_neg g, if_neg h17]; cases h; rfl
theorem RdL_s {T : Nat → Int32} {n i f j : Nat} {acc : List Ln} {x : Ln} {res : RR} (h : RdL T n acc.length i (.inr (x, j))) (hr : RdT T n f j (acc ++ [x]) res) : RdT T n (f + 1) i acc res ∧ ¬ acc.length = 16 := by
  unfold RdL at h
  split at h
  · rename_i g
    split at h
    · cases h
    · rename_i g2
      refine ⟨?_, g2⟩
      · unfold RdT; rw [if_pos g, if_neg g2]
        obtain ⟨r1, h1, h2⟩ := h
        refine ⟨r1, h1, ?_⟩
        rcases h2 with ⟨e1, a1, a2⟩ | ⟨q, a1, a2⟩
        · cases a2
        · refine Or.inr ⟨q, a1, ?_⟩
          unfold RdBL at a2; unfold RdB
          rcases a2 with ⟨b1, b2⟩ | ⟨b1, r2, b2, b3⟩
          · cases b2
          · refine Or.inr ⟨b1, r2, b2, ?_⟩
            rcases b3 with ⟨e1, c1, c2⟩ | ⟨u, c1, c2⟩
            · cases c2
            · refine Or.inr ⟨u, c1, ?_⟩
              rcases c2 with ⟨d1, d2⟩ | ⟨d1, d2⟩
              · cases d2
              · cases d2; exact Or.inr ⟨d1, hr⟩
  · cases h
theorem Tkn_L {T : Nat → Int32} {n N A m : Nat} {X Y : AI} (hA : A = 79 ∨ A = 87) (h : fr (qL5 A m) X Y) (hT : Tkn T n N X) : Tkn T n N Y := by
  have e : ∀ a, 96 ≤ a → Y a = X a := fun a ha => fr_c h a (fun b => by unfold qL5; rw [qX_o hA ha, qN_o (by omega)]; rfl)
  unfold Tkn
  rw [e 97 (by decide), e 98 (by decide), e 99 (by decide)]; exact hT
theorem RdL_lt {T : Nat → Int32} {n m i : Nat} {u : Ln × Nat} (h : RdL T n m i (.inr u)) : i < u.2 := by
  unfold RdL at h
  split at h
  · split at h
    · cases h
    · obtain ⟨r1, h1, h2⟩ := h
      rcases h2 with ⟨e1, a1, a2⟩ | ⟨q, a1, a2⟩
      · cases a2
      · subst a1
        have hq : i + 1 ≤ q.2 := by
          unfold LnE at h1
          split at h1
          · have := Sm_len h1; omega
          · cases h1; exact Nat.le_refl _
        unfold RdBL at a2
        rcases a2 with ⟨b1, b2⟩ | ⟨b1, r2, b2, b3⟩
        · cases b2
        · rcases b3 with ⟨e1, c1, c2⟩ | ⟨v, c1, c2⟩
          · cases c2
          · subst c1
            have hv := An_len (fun _ _ z => Cn_len z) b2
            rcases c2 with ⟨d1, d2⟩ | ⟨d1, d2⟩
            · cases d2
            · cases d2; show i < v.2 + 1; omega
  · cases h
/-- a line's result -/
def RsL (T : Nat → Int32) (n N A m : Nat) (X : AI) (l : Cd) (res : RLn) (r : Option Value) (X' : AI) : Prop := fr (qL5 A m) X X' ∧ match res with
  | .inl e => some (Value.int 0) = r ∧ FlO T n X' e
  | .inr q => some (Value.int 1) = r ∧ PsO T n N X' q.2 ∧ OuO X' A (l ++ q.1.2.1 ++ q.1.2.2) ∧ (l ++ q.1.2.1 ++ q.1.2.2).length ≤ q.2 ∧ X' (A + 3) m = q.1.1 ∧ X' (A + 4) m = nI l.length ∧ X' (A + 5) m = nI (l ++ q.1.2.1).length ∧ X' (A + 6) m = nI (l ++ q.1.2.1 ++ q.1.2.2).length ∧ X' A 8 = nI (m + 1)
def LnO (X : AI) (A : Nat) : Nat → Nat → List Ln → Prop
  | _, _, [] => True
  | k, p, q :: ls => X (A + 3) k = q.1 ∧ X (A + 4) k = nI p ∧ X (A + 5) k = nI (p + q.2.1.length) ∧ X (A + 6) k = nI (p + q.2.1.length + q.2.2.length) ∧ LnO X A (k + 1) (p + q.2.1.length + q.2.2.length) ls
def cdC : List Ln → Cd
  | [] => []
  | q :: ls => q.2.1 ++ q.2.2 ++ cdC ls
theorem cdC_app : ∀ {a c : List Ln}, cdC (a ++ c) = cdC a ++ cdC c
  | [], _ => rfl
  | q :: a, c => by show _ ++ _ ++ cdC (a ++ c) = _ ++ _ ++ cdC a ++ cdC c; rw [cdC_app, ← List.append_assoc]
theorem cdC_1 {a : List Ln} {q : Ln} : cdC (a ++ [q]) = cdC a ++ q.2.1 ++ q.2.2 := by
  rw [cdC_app]; show _ ++ (_ ++ _ ++ []) = _; rw [List.append_nil, ← List.append_assoc]
theorem LnO_lt {X Y : AI} {A : Nat} : ∀ {ls : List Ln} {k p : Nat}, (∀ a j, (a = A + 3 ∨ a = A + 4 ∨ a = A + 5 ∨ a = A + 6) → j < k + ls.length → Y a j = X a j) → LnO X A k p ls → LnO Y A k p ls
  | [], _, _, _, _ => trivial
  | q :: ls, k, p, h, z => by
    have hl : (q :: ls).length = ls.length + 1 := rfl
    refine ⟨(h _ k (Or.inl rfl) (by omega)).trans z.1, (h _ k (Or.inr (Or.inl rfl)) (by omega)).trans z.2.1, (h _ k (Or.inr (Or.inr (Or.inl rfl))) (by omega)).trans z.2.2.1, (h _ k (Or.inr (Or.inr (Or.inr rfl))) (by omega)).trans z.2.2.2.1, LnO_lt (fun a j h1 h2 => h a j h1 (by omega)) z.2.2.2.2⟩
theorem LnO_ap {X : AI} {A : Nat} {x : Ln} : ∀ {ls : List Ln} {k p : Nat}, LnO X A k p ls → X (A + 3) (k + ls.length) = x.1 → X (A + 4) (k + ls.length) = nI (p + (cdC ls).length) → X (A + 5) (k + ls.length) = nI (p + (cdC ls).length + x.2.1.length) → X (A + 6) (k + ls.length) = nI (p + (cdC ls).length + x.2.1.length + x.2.2.length) → LnO X A k p (ls ++ [x])
  | [], k, p, _, h1, h2, h3, h4 => ⟨h1, h2, h3, h4, trivial⟩
  | q :: ls, k, p, z, h1, h2, h3, h4 => by
    have hl : k + (q :: ls).length = k + 1 + ls.length := by simp; omega
    have hc : p + (cdC (q :: ls)).length = p + q.2.1.length + q.2.2.length + (cdC ls).length := by
      show p + (q.2.1 ++ q.2.2 ++ cdC ls).length = _
      simp only [List.length_append]; omega
    rw [hl] at h1 h2 h3 h4
    rw [hc] at h2 h3 h4
    exact ⟨z.1, z.2.1, z.2.2.1, z.2.2.2.1, LnO_ap z.2.2.2.2 h1 h2 h3 h4⟩
theorem LnO_rul {X : AI} {A : Nat} : ∀ {ls : List Ln} {k p : Nat}, LnO X A k p ls → cdT X A p (cdC ls) → p + (cdC ls).length ≤ 800 → ∀ j q, ls[j]? = some q → OLn X A (k + j) q
  | [], _, _, _, _, _, j, q, h => by cases h
  | x :: ls, k, p, z, hc, hl, j, q, h => by
    have hc2 : cdT X A p (x.2.1 ++ x.2.2 ++ cdC ls) := hc
    have hl2 : p + (x.2.1 ++ x.2.2 ++ cdC ls).length ≤ 800 := hl
    simp only [List.length_append] at hl2
    obtain ⟨c1, c3⟩ := cdT_sp hc2
    obtain ⟨c1, c2⟩ := cdT_sp c1
    rw [List.length_append, ← Nat.add_assoc] at c3
    cases j with
    | zero => cases h; exact ⟨p, p + x.2.1.length, p + x.2.1.length + x.2.2.length, rfl, rfl, by omega, z.1, z.2.1, z.2.2.1, z.2.2.2.1, c1, c2⟩
    | succ j => rw [show k + (j + 1) = k + 1 + j by omega]; exact LnO_rul z.2.2.2.2 c3 (by omega) j q h
theorem b_any879 (γ : GE) {b : Bool} {X : AI} {J : AJ} {T : Nat → Int32} {n N i : Nat} {l : Cd} (hT : Tkn T n N X) (hP : PsO T n N X i) (hO : OuO X 79 l) (hl : l.length ≤ i) : Ct γ mX5_readAny 20 0 0 [.ref 95, .int 0] (SS b true) X J (fun rt S' I' J' => (SS b true) = S' ∧ J = J' ∧ ∃ res, An T n (Cn T n 8) i res ∧ RsO T n N 79 X l res rt I') :=
  b_any79 γ b T n N 8 (b_cn79 γ b T n N 8) X J i 0 l rfl hT hP hO hl
theorem c_open79 (γ : GE) {b : Bool} {X : AI} {J : AJ} {l : Cd} {m : Nat} (hO : OuO X 79 l) (hm : m < 16) (em : X 79 8 = nI m) (x : Int32) : Ct γ mX6_openLine 0 0 0 [.ref 79, .int x] (SS b true) X J (fun r S' I' J' => none = r ∧ (SS b true) = S' ∧ (fr (qN 79 m) X I' ∧ I' 82 m = x ∧ I' 83 m = nI l.length ∧ I' 79 8 = nI m) ∧ J = J') :=
  ct_post (fun v S I J z => by obtain ⟨rfl, rfl, rfl, rfl⟩ := z; exact ⟨rfl, rfl, ⟨fr_t (up_q (by unfold qN; simp)) (up_q (by unfold qN; simp)), by rw [upI_ne (by decide), upI_s], by rw [upI_s]; exact hO.1, by rw [upI_ne (by decide), upI_ne (by decide)]; exact em⟩, rfl⟩) (o_openLine79 γ hm em x)
theorem c_when79 (γ : GE) {b : Bool} {X : AI} {J : AJ} {l : Cd} {m : Nat} (hO : OuO X 79 l) (hm : m < 16) (em : X 79 8 = nI m) : Ct γ mX6_openWhen 0 0 0 [.ref 79] (SS b true) X J (fun r S' I' J' => none = r ∧ (SS b true) = S' ∧ (fr (qN 79 m) X I' ∧ I' 82 = X 82 ∧ I' 83 = X 83 ∧ I' 84 m = nI l.length ∧ I' 79 8 = nI m) ∧ J = J') :=
  ct_post (fun v S I J z => by obtain ⟨rfl, rfl, rfl, rfl⟩ := z; exact ⟨rfl, rfl, ⟨up_q (by unfold qN; simp), upI_ne (by decide), upI_ne (by decide), by rw [upI_s]; exact hO.1, by rw [upI_ne (by decide)]; exact em⟩, rfl⟩) (o_openWhen79 γ hm em)
theorem c_close79 (γ : GE) {b : Bool} {X : AI} {J : AJ} {l : Cd} {m : Nat} (hO : OuO X 79 l) (hm : m < 16) (em : X 79 8 = nI m) : Ct γ mX6_closeLine 0 0 0 [.ref 79] (SS b true) X J (fun r S' I' J' => none = r ∧ (SS b true) = S' ∧ (fr (qN 79 m) X I' ∧ I' 82 = X 82 ∧ I' 83 = X 83 ∧ I' 84 = X 84 ∧ I' 85 m = nI l.length ∧ I' 79 8 = nI (m + 1)) ∧ J = J') :=
  ct_post (fun v S I J z => by obtain ⟨rfl, rfl, rfl, rfl⟩ := z; exact ⟨rfl, rfl, ⟨fr_t (up_q (by unfold qN; simp)) (up_q (by unfold qN; simp)), by rw [upI_ne (by decide), upI_ne (by decide)], by rw [upI_ne (by decide), upI_ne (by decide)], by rw [upI_ne (by decide), upI_ne (by decide)], by rw [upI_ne (by decide), upI_s]; exact hO.1, by rw [upI_s, nI_succ]⟩, rfl⟩) (o_closeLine79 γ hm em)
theorem rl_tail79 (γ : GE) {b : Bool} {J : AJ} {T : Nat → Int32} {n N i m : Nat} {l : Cd} {X0 : AI} {X : AI} {j : Nat} {c1 : Cd} (d : Int32) (hm : m < 16) (hT : Tkn T n N X) (hP : PsO T n N X j) (hO : OuO X 79 (l ++ c1)) (hl : (l ++ c1).length ≤ j) (em : X 79 8 = nI m) (d3 : X 82 m = d) (d4 : X 83 m = nI l.length) (hf : fr (qL5 79 m) X0 X) (hd : ∀ res, RdBL T n d (c1, j) res → RdL T n m i res) : Rj γ mX5_readLine 21 0 0 (fun r S' I' J' => (SS b true) = S' ∧ J = J' ∧ ∃ res, RdL T n m i res ∧ RsL T n N 79 m X0 l res r I') (68, [some (.ref 95), some (.int d)], [], (SS b true), X, J, 0, 0) := by
  have hN := hT.1
  have hjN := hP.1
  refine r_run okX5_readLine 2 (cs := []) (σ' := (72, [some (.ref 95), some (.int d)], [.ref 79], (SS b true), X, J, 0, 0)) rfl trivial ?_
  refine r_callV okX5_readLine okX6_openWhen [] [] 79 rfl rfl rfl kkX6_openWhen rfl rfl (by decide) rfl rfl rfl (by decide) ⟨Nat.le_refl _, Nat.le_refl _⟩ (Nat.le_of_ble_eq_true rfl) (c_when79 γ hO hm em) (fun v1 S1 I1 J1 hp => ?_)
  obtain ⟨rfl, rfl, ⟨fw, w3, w4, w5, w8⟩, rfl⟩ := hp
  obtain ⟨Xw, eXw⟩ : ∃ z, z = I1 := ⟨_, rfl⟩
  subst eXw
  have hTw : Tkn T n N Xw := Tkn_N (A := 79) (by decide) fw hT
  have hPw : PsO T n N Xw j := PsO_N (A := 79) (by decide) fw hP
  have hOw := OuO_N fw hO
  have hfw : fr (qL5 79 m) X0 Xw := fr_t hf (fN_L fw)
  by_cases k3 : kK T n j = 3
  · show Rj _ _ _ _ _ _ (75, [some (.ref 95), some (.int d)], [], (SS b true), Xw, J, 0, 0)
    refine r_run okX5_readLine 2 (cs := []) (σ' := (77, [some (.ref 95), some (.int d)], [.int 3, .ref 95], (SS b true), Xw, J, 0, 0)) rfl trivial ?_
    refine r_callV okX5_readLine okX5_take [.int 3] [] 95 rfl rfl rfl kkX5_take rfl rfl (by decide) rfl rfl rfl (by decide) ⟨Nat.le_refl _, Nat.le_refl _⟩ (Nat.le_of_ble_eq_true rfl) (b_take179 γ hTw hPw (kK_lt hTw hPw.1 (by rw [k3]; decide)) k3) (fun v1 S1 I1 J1 hp => ?_)
    obtain ⟨rfl, rfl, ⟨ft, pt⟩, rfl⟩ := hp
    obtain ⟨Xt, eXt⟩ : ∃ z, z = I1 := ⟨_, rfl⟩
    subst eXt
    have hTt : Tkn T n N Xt := Tkn_k (A := 79) (by decide) (f9_X ft) hTw
    have hOt := OuO_9 (by decide) ft hOw
    have hft : fr (qL5 79 m) X0 Xt := fr_t hfw (fX_L (f9_X ft))
    show Rj _ _ _ _ _ _ (80, [some (.ref 95), some (.int d)], [.int 1], (SS b true), Xt, J, 0, 0)
    refine r_ifc okX5_readLine rfl (fun (h80 : (1 : Int32) = (0 : Int32)) => ?_) (fun (h80 : ¬ (1 : Int32) = (0 : Int32)) => ?_)
    · exact absurd h80 (by decide)
    · refine r_run okX5_readLine 2 (cs := []) (σ' := (85, [some (.ref 95), some (.int d)], [.int 0, .ref 95], (SS b true), Xt, J, 0, 0)) rfl trivial ?_
      refine r_callV okX5_readLine okX5_readAny [.int 0] [] 95 rfl rfl rfl kkX5_readAny rfl rfl (by decide) rfl rfl rfl (by decide) ⟨Nat.le_refl _, Nat.le_refl _⟩ (Nat.le_of_ble_eq_true rfl) (b_any879 γ hTt pt hOt (by omega)) (fun v1 S1 I1 J1 hp => ?_)
      obtain ⟨rfl, rfl, res, hc, hfr, hr⟩ := hp
      obtain ⟨Xu, eXu⟩ : ∃ z, z = I1 := ⟨_, rfl⟩
      subst eXu
      cases res with
      | inl e =>
        obtain ⟨rfl, gF, gE⟩ := hr
        show Rj _ _ _ _ _ _ (88, [some (.ref 95), some (.int d)], [.int 0], (SS b true), Xu, J, 0, 0)
        refine r_ifc okX5_readLine rfl (fun (h88 : (0 : Int32) = (0 : Int32)) => ?_) (fun (h88 : ¬ (0 : Int32) = (0 : Int32)) => ?_)
        · refine r_run okX5_readLine 1 (cs := []) (σ' := (101, [some (.ref 95), some (.int d)], [.int 0], (SS b true), Xu, J, 0, 0)) rfl trivial ?_
          refine r_iret okX5_readLine rfl rfl (by decide +kernel) (Nat.le_refl _) (Nat.le_refl _) ?_
          exact ⟨rfl, rfl, .inl e, hd _ (Or.inr ⟨k3, _, hc, Or.inl ⟨e, rfl, rfl⟩⟩), fr_t hft (fX_L hfr), rfl, gE⟩
        · exact absurd h88 (by decide)
      | inr u =>
        obtain ⟨rfl, gP, gO⟩ := hr
        have hq1 := An_len (fun _ _ z => Cn_len z) hc
        have hq3 := len_flt u.1
        have hq2 := gP.1
        have hTu : Tkn T n N Xu := Tkn_k (A := 79) (by decide) hfr hTt
        have hfu : fr (qL5 79 m) X0 Xu := fr_t hft (fX_L hfr)
        by_cases k59 : kK T n u.2 = 59
        · show Rj _ _ _ _ _ _ (88, [some (.ref 95), some (.int d)], [.int 1], (SS b true), Xu, J, 0, 0)
          refine r_ifc okX5_readLine rfl (fun (h88_1 : (1 : Int32) = (0 : Int32)) => ?_) (fun (h88_1 : ¬ (1 : Int32) = (0 : Int32)) => ?_)
          · exact absurd h88_1 (by decide)
          · refine r_run okX5_readLine 2 (cs := []) (σ' := (94, [some (.ref 95), some (.int d)], [.int 59, .ref 95], (SS b true), Xu, J, 0, 0)) rfl trivial ?_
            refine r_callV okX5_readLine okX5_take [.int 59] [] 95 rfl rfl rfl kkX5_take rfl rfl (by decide) rfl rfl rfl (by decide) ⟨Nat.le_refl _, Nat.le_refl _⟩ (Nat.le_of_ble_eq_true rfl) (b_take179 γ hTu gP (kK_lt hTu hq2 (by rw [k59]; decide)) k59) (fun v1 S1 I1 J1 hp => ?_)
            obtain ⟨rfl, rfl, ⟨fv, pv⟩, rfl⟩ := hp
            obtain ⟨Xv, eXv⟩ : ∃ z, z = I1 := ⟨_, rfl⟩
            subst eXv
            have hOv := OuO_9 (by decide) fv gO
            have g8 : fr (qX 79) Xw Xv := fr_t (f9_X ft) (fr_t hfr (f9_X fv))
            have e8 : Xv 79 8 = nI m := (g8 79 8 rfl).trans w8
            have e3 : Xv 82 m = d := (g8 82 m rfl).trans ((congrFun w3 m).trans d3)
            have e4 : Xv 83 m = nI l.length := (g8 83 m rfl).trans ((congrFun w4 m).trans d4)
            have e5 : Xv 84 m = nI (l ++ c1).length := (g8 84 m rfl).trans w5
            show Rj _ _ _ _ _ _ (97, [some (.ref 95), some (.int d)], [.int 1], (SS b true), Xv, J, 0, 0)
            refine r_ifc okX5_readLine rfl (fun (h97 : ¬ (1 : Int32) = (0 : Int32)) => ?_) (fun h970 => ?_)
            · refine r_run okX5_readLine 2 (cs := []) (σ' := (106, [some (.ref 95), some (.int d)], [.ref 79], (SS b true), Xv, J, 0, 0)) rfl trivial ?_
              refine r_callV okX5_readLine okX6_closeLine [] [] 79 rfl rfl rfl kkX6_closeLine rfl rfl (by decide) rfl rfl rfl (by decide) ⟨Nat.le_refl _, Nat.le_refl _⟩ (Nat.le_of_ble_eq_true rfl) (c_close79 γ hOv hm e8) (fun v1 S1 I1 J1 hp => ?_)
              obtain ⟨rfl, rfl, ⟨fz, z3, z4, z5, z6, z8⟩, rfl⟩ := hp
              obtain ⟨Xz, eXz⟩ : ∃ z, z = I1 := ⟨_, rfl⟩
              subst eXz
              show Rj _ _ _ _ _ _ (109, [some (.ref 95), some (.int d)], [], (SS b true), Xz, J, 0, 0)
              refine r_run okX5_readLine 1 (cs := []) (σ' := (110, [some (.ref 95), some (.int d)], [.int 1], (SS b true), Xz, J, 0, 0)) rfl trivial ?_
              refine r_iret okX5_readLine rfl rfl (by decide +kernel) (Nat.le_refl _) (Nat.le_refl _) ?_
              exact ⟨rfl, rfl, .inr ((d, c1, u.1), u.2 + 1), hd _ (Or.inr ⟨k3, _, hc, Or.inr ⟨u, rfl, Or.inr ⟨k59, rfl⟩⟩⟩), fr_t (fr_t hfu (fX_L (f9_X fv))) (fN_L fz), rfl, PsO_N (A := 79) (by decide) fz pv, OuO_N fz hOv, (by simp only [List.length_append, List.length_cons, List.length_nil] at *; omega), (congrFun z3 m).trans e3, (congrFun z4 m).trans e4, (congrFun z5 m).trans e5, z6, z8⟩
            · have h97 : (1 : Int32) = (0 : Int32) := Classical.not_not.mp h970
              exact absurd h97 (by decide)
        · show Rj _ _ _ _ _ _ (88, [some (.ref 95), some (.int d)], [.int 1], (SS b true), Xu, J, 0, 0)
          refine r_ifc okX5_readLine rfl (fun (h88_2 : (1 : Int32) = (0 : Int32)) => ?_) (fun (h88_2 : ¬ (1 : Int32) = (0 : Int32)) => ?_)
          · exact absurd h88_2 (by decide)
          · refine r_run okX5_readLine 2 (cs := []) (σ' := (94, [some (.ref 95), some (.int d)], [.int 59, .ref 95], (SS b true), Xu, J, 0, 0)) rfl trivial ?_
            refine r_callV okX5_readLine okX5_take [.int 59] [] 95 rfl rfl rfl kkX5_take rfl rfl (by decide) rfl rfl rfl (by decide) ⟨Nat.le_refl _, Nat.le_refl _⟩ (Nat.le_of_ble_eq_true rfl) (b_take079 γ hTu gP k59) (fun v1 S1 I1 J1 hp => ?_)
            obtain ⟨rfl, rfl, ⟨fv, lv⟩, rfl⟩ := hp
            obtain ⟨Xv, eXv⟩ : ∃ z, z = I1 := ⟨_, rfl⟩
            subst eXv
            show Rj _ _ _ _ _ _ (97, [some (.ref 95), some (.int d)], [.int 0], (SS b true), Xv, J, 0, 0)
            refine r_ifc okX5_readLine rfl (fun (h97_1 : ¬ (0 : Int32) = (0 : Int32)) => ?_) (fun h97_10 => ?_)
            · exact absurd h97_1 (by decide)
            · have h97_1 : (0 : Int32) = (0 : Int32) := Classical.not_not.mp h97_10
              refine r_run okX5_readLine 1 (cs := []) (σ' := (101, [some (.ref 95), some (.int d)], [.int 0], (SS b true), Xv, J, 0, 0)) rfl trivial ?_
              refine r_iret okX5_readLine rfl rfl (by decide +kernel) (Nat.le_refl _) (Nat.le_refl _) ?_
              exact ⟨rfl, rfl, .inl (1, u.2), hd _ (Or.inr ⟨k3, _, hc, Or.inr ⟨u, rfl, Or.inl ⟨k59, rfl⟩⟩⟩), fr_t hfu (fX_L (f9_X fv)), rfl, lv⟩
  · show Rj _ _ _ _ _ _ (75, [some (.ref 95), some (.int d)], [], (SS b true), Xw, J, 0, 0)
    refine r_run okX5_readLine 2 (cs := []) (σ' := (77, [some (.ref 95), some (.int d)], [.int 3, .ref 95], (SS b true), Xw, J, 0, 0)) rfl trivial ?_
    refine r_callV okX5_readLine okX5_take [.int 3] [] 95 rfl rfl rfl kkX5_take rfl rfl (by decide) rfl rfl rfl (by decide) ⟨Nat.le_refl _, Nat.le_refl _⟩ (Nat.le_of_ble_eq_true rfl) (b_take079 γ hTw hPw k3) (fun v1 S1 I1 J1 hp => ?_)
    obtain ⟨rfl, rfl, ⟨ft, lt⟩, rfl⟩ := hp
    obtain ⟨Xt, eXt⟩ : ∃ z, z = I1 := ⟨_, rfl⟩
    subst eXt
    show Rj _ _ _ _ _ _ (80, [some (.ref 95), some (.int d)], [.int 0], (SS b true), Xt, J, 0, 0)
    refine r_ifc okX5_readLine rfl (fun (h80 : (0 : Int32) = (0 : Int32)) => ?_) (fun (h80 : ¬ (0 : Int32) = (0 : Int32)) => ?_)
    · refine r_run okX5_readLine 1 (cs := []) (σ' := (101, [some (.ref 95), some (.int d)], [.int 0], (SS b true), Xt, J, 0, 0)) rfl trivial ?_
      refine r_iret okX5_readLine rfl rfl (by decide +kernel) (Nat.le_refl _) (Nat.le_refl _) ?_
      exact ⟨rfl, rfl, .inl (1, j), hd _ (Or.inl ⟨k3, rfl⟩), fr_t hfw (fX_L (f9_X ft)), rfl, lt⟩
    · exact absurd h80 (by decide)
theorem rl_no79 (γ : GE) {b : Bool} {J : AJ} {T : Nat → Int32} {n N i m : Nat} {l : Cd} {X0 : AI} (hT : Tkn T n N X0) (hP : PsO T n N X0 i) (hO : OuO X0 79 l) (hl : l.length ≤ i) (em : X0 79 8 = nI m) (k02 : ¬ inB (kK T n i) 0 2 = true) : Ct γ mX5_readLine 21 0 0 [.ref 95] (SS b true) X0 J (fun r S' I' J' => (SS b true) = S' ∧ J = J' ∧ ∃ res, RdL T n m i res ∧ RsL T n N 79 m X0 l res r I') := by
  have hN := hT.1
  have hiN := hP.1
  have e7 := hP.2.2.1
  refine ct_of okX5_readLine (L := [some (.ref 95), none]) (Nat.le_of_ble_eq_true rfl) rfl ?_
  refine r_run okX5_readLine 4 (cs := []) (σ' := (6, [some (.ref 95), some (.int (X0 95 7))], [.int (X0 95 7)], (SS b true), X0, J, 0, 0)) rfl trivial ?_
  simp only [e7]
  show Rj _ _ _ _ _ _ (6, [some (.ref 95), some (.int (kK T n i))], [.int (kK T n i)], (SS b true), X0, J, 0, 0)
  refine r_ifc okX5_readLine rfl (fun (h6 : (kK T n i) = (0 : Int32)) => ?_) (fun (h6 : ¬ (kK T n i) = (0 : Int32)) => ?_)
  · exact absurd (by rw [h6]; decide) k02
  · refine r_run okX5_readLine 2 (cs := []) (σ' := (11, [some (.ref 95), some (.int (kK T n i))], [.int 1, .int (kK T n i)], (SS b true), X0, J, 0, 0)) rfl trivial ?_
    refine r_icmp okX5_readLine rfl (fun (h11 : (kK T n i) = (1 : Int32)) => ?_) (fun (h11 : ¬ (kK T n i) = (1 : Int32)) => ?_)
    · exact absurd (by rw [h11]; decide) k02
    · refine r_run okX5_readLine 2 (cs := []) (σ' := (16, [some (.ref 95), some (.int (kK T n i))], [.int 2, .int (kK T n i)], (SS b true), X0, J, 0, 0)) rfl trivial ?_
      refine r_icmp okX5_readLine rfl (fun (h16 : (kK T n i) = (2 : Int32)) => ?_) (fun (h16 : ¬ (kK T n i) = (2 : Int32)) => ?_)
      · exact absurd (by rw [h16]; decide) k02
      · refine r_run okX5_readLine 2 (cs := []) (σ' := (21, [some (.ref 95), some (.int (kK T n i))], [.int 1, .ref 95], (SS b true), X0, J, 0, 0)) rfl trivial ?_
        refine r_callV okX5_readLine okX5_refuse [.int 1] [] 95 rfl rfl rfl kkX5_refuse rfl rfl (by decide) rfl rfl rfl (by decide) ⟨Nat.le_refl _, Nat.le_refl _⟩ (Nat.le_of_ble_eq_true rfl) (b_ref79 γ hT hP 1) (fun v1 S1 I1 J1 hp => ?_)
        obtain ⟨rfl, rfl, ⟨fr1, fl1⟩, rfl⟩ := hp
        obtain ⟨Xr, eXr⟩ : ∃ z, z = I1 := ⟨_, rfl⟩
        subst eXr
        show Rj _ _ _ _ _ _ (24, [some (.ref 95), some (.int (kK T n i))], [.int 0], (SS b true), Xr, J, 0, 0)
        refine r_iret okX5_readLine rfl rfl (by decide +kernel) (Nat.le_refl _) (Nat.le_refl _) ?_
        exact ⟨rfl, rfl, .inl (1, i), by unfold RdL; rw [if_neg k02], fX_L (f9_X fr1), rfl, fl1⟩
theorem rl_full0_79 (γ : GE) {b : Bool} {J : AJ} {T : Nat → Int32} {n N i m : Nat} {l : Cd} {X0 : AI} (hT : Tkn T n N X0) (hP : PsO T n N X0 i) (hO : OuO X0 79 l) (hl : l.length ≤ i) (em : X0 79 8 = nI m) (h : kK T n i = 0) (m16 : m = 16) : Ct γ mX5_readLine 21 0 0 [.ref 95] (SS b true) X0 J (fun r S' I' J' => (SS b true) = S' ∧ J = J' ∧ ∃ res, RdL T n m i res ∧ RsL T n N 79 m X0 l res r I') := by
  have hN := hT.1
  have hiN := hP.1
  have e7 : X0 95 7 = 0 := hP.2.2.1.trans h
  refine ct_of okX5_readLine (L := [some (.ref 95), none]) (Nat.le_of_ble_eq_true rfl) rfl ?_
  refine r_run okX5_readLine 4 (cs := []) (σ' := (6, [some (.ref 95), some (.int (X0 95 7))], [.int (X0 95 7)], (SS b true), X0, J, 0, 0)) rfl trivial ?_
  simp only [e7]
  show Rj _ _ _ _ _ _ (6, [some (.ref 95), some (.int 0)], [.int 0], (SS b true), X0, J, 0, 0)
  refine r_ifc okX5_readLine rfl (fun (h6 : (0 : Int32) = (0 : Int32)) => ?_) (fun (h6 : ¬ (0 : Int32) = (0 : Int32)) => ?_)
  · refine r_run okX5_readLine 2 (cs := []) (σ' := (29, [some (.ref 95), some (.int 0)], [.ref 79], (SS b true), X0, J, 0, 0)) rfl trivial ?_
    refine r_callV okX5_readLine okX6_size [] [] 79 rfl rfl rfl kkX6_size rfl rfl (by decide) rfl rfl rfl (by decide) ⟨Nat.le_refl _, Nat.le_refl _⟩ (Nat.le_of_ble_eq_true rfl) (o_rsize79 γ) (fun v1 S1 I1 J1 hp => ?_)
    obtain ⟨rfl, rfl, rfl, rfl⟩ := hp
    show Rj _ _ _ _ _ _ (32, [some (.ref 95), some (.int 0)], [.int (X0 79 8)], (SS b true), X0, J, 0, 0)
    simp only [em]
    show Rj _ _ _ _ _ _ (32, [some (.ref 95), some (.int 0)], [.int (nI m)], (SS b true), X0, J, 0, 0)
    refine r_run okX5_readLine 1 (cs := []) (σ' := (34, [some (.ref 95), some (.int 0)], [.int 16, .int (nI m)], (SS b true), X0, J, 0, 0)) rfl trivial ?_
    refine r_icmp okX5_readLine rfl (fun (h34 : (nI m) < (16 : Int32)) => ?_) (fun (h34 : ¬ (nI m) < (16 : Int32)) => ?_)
    · rw [m16] at h34
      exact absurd h34 (by decide)
    · refine r_run okX5_readLine 2 (cs := []) (σ' := (39, [some (.ref 95), some (.int 0)], [.int 3, .ref 95], (SS b true), X0, J, 0, 0)) rfl trivial ?_
      refine r_callV okX5_readLine okX5_refuse [.int 3] [] 95 rfl rfl rfl kkX5_refuse rfl rfl (by decide) rfl rfl rfl (by decide) ⟨Nat.le_refl _, Nat.le_refl _⟩ (Nat.le_of_ble_eq_true rfl) (b_ref79 γ hT hP 3) (fun v1 S1 I1 J1 hp => ?_)
      obtain ⟨rfl, rfl, ⟨fr1, fl1⟩, rfl⟩ := hp
      obtain ⟨Xr, eXr⟩ : ∃ z, z = I1 := ⟨_, rfl⟩
      subst eXr
      show Rj _ _ _ _ _ _ (42, [some (.ref 95), some (.int 0)], [.int 0], (SS b true), Xr, J, 0, 0)
      refine r_iret okX5_readLine rfl rfl (by decide +kernel) (Nat.le_refl _) (Nat.le_refl _) ?_
      exact ⟨rfl, rfl, .inl (3, i), by unfold RdL; rw [if_pos (by rw [h]; decide), if_pos m16], fX_L (f9_X fr1), rfl, fl1⟩
  · exact absurd h6 (by decide)
theorem rl_tok0_79 (γ : GE) {b : Bool} {J : AJ} {T : Nat → Int32} {n N i m : Nat} {l : Cd} {X0 : AI} (hT : Tkn T n N X0) (hP : PsO T n N X0 i) (hO : OuO X0 79 l) (hl : l.length ≤ i) (em : X0 79 8 = nI m) (h : kK T n i = 0) (hm : m < 16) : Ct γ mX5_readLine 21 0 0 [.ref 95] (SS b true) X0 J (fun r S' I' J' => (SS b true) = S' ∧ J = J' ∧ ∃ res, RdL T n m i res ∧ RsL T n N 79 m X0 l res r I') := by
  have hN := hT.1
  have hiN := hP.1
  have e7 : X0 95 7 = 0 := hP.2.2.1.trans h
  have hi : i < N := kK_lt hT hiN (by rw [h]; decide)
  refine ct_of okX5_readLine (L := [some (.ref 95), none]) (Nat.le_of_ble_eq_true rfl) rfl ?_
  refine r_run okX5_readLine 4 (cs := []) (σ' := (6, [some (.ref 95), some (.int (X0 95 7))], [.int (X0 95 7)], (SS b true), X0, J, 0, 0)) rfl trivial ?_
  simp only [e7]
  show Rj _ _ _ _ _ _ (6, [some (.ref 95), some (.int 0)], [.int 0], (SS b true), X0, J, 0, 0)
  refine r_ifc okX5_readLine rfl (fun (h6 : (0 : Int32) = (0 : Int32)) => ?_) (fun (h6 : ¬ (0 : Int32) = (0 : Int32)) => ?_)
  · refine r_run okX5_readLine 2 (cs := []) (σ' := (29, [some (.ref 95), some (.int 0)], [.ref 79], (SS b true), X0, J, 0, 0)) rfl trivial ?_
    refine r_callV okX5_readLine okX6_size [] [] 79 rfl rfl rfl kkX6_size rfl rfl (by decide) rfl rfl rfl (by decide) ⟨Nat.le_refl _, Nat.le_refl _⟩ (Nat.le_of_ble_eq_true rfl) (o_rsize79 γ) (fun v1 S1 I1 J1 hp => ?_)
    obtain ⟨rfl, rfl, rfl, rfl⟩ := hp
    show Rj _ _ _ _ _ _ (32, [some (.ref 95), some (.int 0)], [.int (X0 79 8)], (SS b true), X0, J, 0, 0)
    simp only [em]
    show Rj _ _ _ _ _ _ (32, [some (.ref 95), some (.int 0)], [.int (nI m)], (SS b true), X0, J, 0, 0)
    refine r_run okX5_readLine 1 (cs := []) (σ' := (34, [some (.ref 95), some (.int 0)], [.int 16, .int (nI m)], (SS b true), X0, J, 0, 0)) rfl trivial ?_
    refine r_icmp okX5_readLine rfl (fun (h34 : (nI m) < (16 : Int32)) => ?_) (fun (h34 : ¬ (nI m) < (16 : Int32)) => ?_)
    · refine r_run okX5_readLine 1 (cs := []) (σ' := (44, [some (.ref 95), some (.int 0)], [.ref 95], (SS b true), X0, J, 0, 0)) rfl trivial ?_
      refine r_callV okX5_readLine okX5_advance [] [] 95 rfl rfl rfl kkX5_advance rfl rfl (by decide) rfl rfl rfl (by decide) ⟨Nat.le_refl _, Nat.le_refl _⟩ (Nat.le_of_ble_eq_true rfl) (b_adv79 γ hT hP hi) (fun v1 S1 I1 J1 hp => ?_)
      obtain ⟨rfl, rfl, ⟨fa, pa⟩, rfl⟩ := hp
      obtain ⟨Xa, eXa⟩ : ∃ z, z = I1 := ⟨_, rfl⟩
      subst eXa
      have hTa : Tkn T n N Xa := Tkn_k (A := 79) (by decide) (f9_X fa) hT
      have hOa := OuO_9 (by decide) fa hO
      have ema : Xa 79 8 = nI m := (fa 79 8 rfl).trans em
      show Rj _ _ _ _ _ _ (47, [some (.ref 95), some (.int 0)], [], (SS b true), Xa, J, 0, 0)
      refine r_run okX5_readLine 3 (cs := []) (σ' := (52, [some (.ref 95), some (.int 0)], [.int 0, .ref 79], (SS b true), Xa, J, 0, 0)) rfl trivial ?_
      refine r_callV okX5_readLine okX6_openLine [.int 0] [] 79 rfl rfl rfl kkX6_openLine rfl rfl (by decide) rfl rfl rfl (by decide) ⟨Nat.le_refl _, Nat.le_refl _⟩ (Nat.le_of_ble_eq_true rfl) (c_open79 γ hOa hm ema 0) (fun v1 S1 I1 J1 hp => ?_)
      obtain ⟨rfl, rfl, ⟨fo, o3, o4, o8⟩, rfl⟩ := hp
      obtain ⟨Xo, eXo⟩ : ∃ z, z = I1 := ⟨_, rfl⟩
      subst eXo
      have hTo : Tkn T n N Xo := Tkn_N (A := 79) (by decide) fo hTa
      have hPo : PsO T n N Xo (i + 1) := PsO_N (A := 79) (by decide) fo pa
      have hOo := OuO_N fo hOa
      have hfo : fr (qL5 79 m) X0 Xo := fr_t (fX_L (f9_X fa)) (fN_L fo)
      show Rj _ _ _ _ _ _ (55, [some (.ref 95), some (.int 0)], [], (SS b true), Xo, J, 0, 0)
      refine r_run okX5_readLine 1 (cs := []) (σ' := (56, [some (.ref 95), some (.int 0)], [.int 0], (SS b true), Xo, J, 0, 0)) rfl trivial ?_
      refine r_ifc okX5_readLine rfl (fun (h56 : ¬ (0 : Int32) = (0 : Int32)) => ?_) (fun h560 => ?_)
      · exact absurd h56 (by decide)
      · have h56 : (0 : Int32) = (0 : Int32) := Classical.not_not.mp h560
        refine r_run okX5_readLine 1 (cs := []) (σ' := (60, [some (.ref 95), some (.int 0)], [.ref 95], (SS b true), Xo, J, 0, 0)) rfl trivial ?_
        refine r_callV okX5_readLine okX5_readSum [] [] 95 rfl rfl rfl kkX5_readSum rfl rfl (by decide) rfl rfl rfl (by decide) ⟨Nat.le_refl _, Nat.le_refl _⟩ (Nat.le_of_ble_eq_true rfl) (b_sum79 γ hTo hPo hOo (by omega)) (fun v1 S1 I1 J1 hp => ?_)
        obtain ⟨rfl, rfl, res, hc, hfr, hr⟩ := hp
        obtain ⟨Xu, eXu⟩ : ∃ z, z = I1 := ⟨_, rfl⟩
        subst eXu
        have hS := hc
        have hc : LnE T n 0 (i + 1) res := by unfold LnE; rw [if_pos rfl]; exact hc
        cases res with
        | inl e =>
          obtain ⟨rfl, gF, gE⟩ := hr
          show Rj _ _ _ _ _ _ (63, [some (.ref 95), some (.int 0)], [.int 0], (SS b true), Xu, J, 0, 0)
          refine r_ifc okX5_readLine rfl (fun (h63 : ¬ (0 : Int32) = (0 : Int32)) => ?_) (fun h630 => ?_)
          · exact absurd h63 (by decide)
          · have h63 : (0 : Int32) = (0 : Int32) := Classical.not_not.mp h630
            refine r_run okX5_readLine 1 (cs := []) (σ' := (67, [some (.ref 95), some (.int 0)], [.int 0], (SS b true), Xu, J, 0, 0)) rfl trivial ?_
            refine r_iret okX5_readLine rfl rfl (by decide +kernel) (Nat.le_refl _) (Nat.le_refl _) ?_
            exact ⟨rfl, rfl, .inl e, by unfold RdL; rw [if_pos (by rw [h]; decide), if_neg (by omega), h]; exact ⟨_, hc, Or.inl ⟨e, rfl, rfl⟩⟩, fr_t hfo (fX_L hfr), rfl, gE⟩
        | inr u =>
          obtain ⟨rfl, gP, gO⟩ := hr
          have hq1 := Sm_len hS
          have hq3 := len_flt u.1
          show Rj _ _ _ _ _ _ (63, [some (.ref 95), some (.int 0)], [.int 1], (SS b true), Xu, J, 0, 0)
          refine r_ifc okX5_readLine rfl (fun (h63_1 : ¬ (1 : Int32) = (0 : Int32)) => ?_) (fun h63_10 => ?_)
          · exact rl_tail79 γ (c1 := u.1) 0 hm (Tkn_k (A := 79) (by decide) hfr hTo) gP gO (by simp only [List.length_append, List.length_cons, List.length_nil] at *; omega) ((hfr 79 8 rfl).trans o8) ((hfr 82 m rfl).trans o3) ((hfr 83 m rfl).trans o4) (fr_t hfo (fX_L hfr)) (fun res hr => by unfold RdL; rw [if_pos (by rw [h]; decide), if_neg (by omega), h]; exact ⟨_, hc, Or.inr ⟨u, rfl, hr⟩⟩)
          · have h63_1 : (1 : Int32) = (0 : Int32) := Classical.not_not.mp h63_10
            exact absurd h63_1 (by decide)
    · exact absurd (nI_lt (a := m) (b := 16) hm (by decide)) h34
  · exact absurd h6 (by decide)
theorem rl_full1_79 (γ : GE) {b : Bool} {J : AJ} {T : Nat → Int32} {n N i m : Nat} {l : Cd} {X0 : AI} (hT : Tkn T n N X0) (hP : PsO T n N X0 i) (hO : OuO X0 79 l) (hl : l.length ≤ i) (em : X0 79 8 = nI m) (h : kK T n i = 1) (m16 : m = 16) : Ct γ mX5_readLine 21 0 0 [.ref 95] (SS b true) X0 J (fun r S' I' J' => (SS b true) = S' ∧ J = J' ∧ ∃ res, RdL T n m i res ∧ RsL T n N 79 m X0 l res r I') := by
  have hN := hT.1
  have hiN := hP.1
  have e7 : X0 95 7 = 1 := hP.2.2.1.trans h
  refine ct_of okX5_readLine (L := [some (.ref 95), none]) (Nat.le_of_ble_eq_true rfl) rfl ?_
  refine r_run okX5_readLine 4 (cs := []) (σ' := (6, [some (.ref 95), some (.int (X0 95 7))], [.int (X0 95 7)], (SS b true), X0, J, 0, 0)) rfl trivial ?_
  simp only [e7]
  show Rj _ _ _ _ _ _ (6, [some (.ref 95), some (.int 1)], [.int 1], (SS b true), X0, J, 0, 0)
  refine r_ifc okX5_readLine rfl (fun (h6 : (1 : Int32) = (0 : Int32)) => ?_) (fun (h6 : ¬ (1 : Int32) = (0 : Int32)) => ?_)
  · exact absurd h6 (by decide)
  · refine r_run okX5_readLine 2 (cs := []) (σ' := (11, [some (.ref 95), some (.int 1)], [.int 1, .int 1], (SS b true), X0, J, 0, 0)) rfl trivial ?_
    refine r_icmp okX5_readLine rfl (fun (h11 : (1 : Int32) = (1 : Int32)) => ?_) (fun (h11 : ¬ (1 : Int32) = (1 : Int32)) => ?_)
    · refine r_run okX5_readLine 2 (cs := []) (σ' := (29, [some (.ref 95), some (.int 1)], [.ref 79], (SS b true), X0, J, 0, 0)) rfl trivial ?_
      refine r_callV okX5_readLine okX6_size [] [] 79 rfl rfl rfl kkX6_size rfl rfl (by decide) rfl rfl rfl (by decide) ⟨Nat.le_refl _, Nat.le_refl _⟩ (Nat.le_of_ble_eq_true rfl) (o_rsize79 γ) (fun v1 S1 I1 J1 hp => ?_)
      obtain ⟨rfl, rfl, rfl, rfl⟩ := hp
      show Rj _ _ _ _ _ _ (32, [some (.ref 95), some (.int 1)], [.int (X0 79 8)], (SS b true), X0, J, 0, 0)
      simp only [em]
      show Rj _ _ _ _ _ _ (32, [some (.ref 95), some (.int 1)], [.int (nI m)], (SS b true), X0, J, 0, 0)
      refine r_run okX5_readLine 1 (cs := []) (σ' := (34, [some (.ref 95), some (.int 1)], [.int 16, .int (nI m)], (SS b true), X0, J, 0, 0)) rfl trivial ?_
      refine r_icmp okX5_readLine rfl (fun (h34 : (nI m) < (16 : Int32)) => ?_) (fun (h34 : ¬ (nI m) < (16 : Int32)) => ?_)
      · rw [m16] at h34
        exact absurd h34 (by decide)
      · refine r_run okX5_readLine 2 (cs := []) (σ' := (39, [some (.ref 95), some (.int 1)], [.int 3, .ref 95], (SS b true), X0, J, 0, 0)) rfl trivial ?_
        refine r_callV okX5_readLine okX5_refuse [.int 3] [] 95 rfl rfl rfl kkX5_refuse rfl rfl (by decide) rfl rfl rfl (by decide) ⟨Nat.le_refl _, Nat.le_refl _⟩ (Nat.le_of_ble_eq_true rfl) (b_ref79 γ hT hP 3) (fun v1 S1 I1 J1 hp => ?_)
        obtain ⟨rfl, rfl, ⟨fr1, fl1⟩, rfl⟩ := hp
        obtain ⟨Xr, eXr⟩ : ∃ z, z = I1 := ⟨_, rfl⟩
        subst eXr
        show Rj _ _ _ _ _ _ (42, [some (.ref 95), some (.int 1)], [.int 0], (SS b true), Xr, J, 0, 0)
        refine r_iret okX5_readLine rfl rfl (by decide +kernel) (Nat.le_refl _) (Nat.le_refl _) ?_
        exact ⟨rfl, rfl, .inl (3, i), by unfold RdL; rw [if_pos (by rw [h]; decide), if_pos m16], fX_L (f9_X fr1), rfl, fl1⟩
    · exact absurd h11 (by decide)
theorem rl_tok1_79 (γ : GE) {b : Bool} {J : AJ} {T : Nat → Int32} {n N i m : Nat} {l : Cd} {X0 : AI} (hT : Tkn T n N X0) (hP : PsO T n N X0 i) (hO : OuO X0 79 l) (hl : l.length ≤ i) (em : X0 79 8 = nI m) (h : kK T n i = 1) (hm : m < 16) : Ct γ mX5_readLine 21 0 0 [.ref 95] (SS b true) X0 J (fun r S' I' J' => (SS b true) = S' ∧ J = J' ∧ ∃ res, RdL T n m i res ∧ RsL T n N 79 m X0 l res r I') := by
  have hN := hT.1
  have hiN := hP.1
  have e7 : X0 95 7 = 1 := hP.2.2.1.trans h
  have hi : i < N := kK_lt hT hiN (by rw [h]; decide)
  refine ct_of okX5_readLine (L := [some (.ref 95), none]) (Nat.le_of_ble_eq_true rfl) rfl ?_
  refine r_run okX5_readLine 4 (cs := []) (σ' := (6, [some (.ref 95), some (.int (X0 95 7))], [.int (X0 95 7)], (SS b true), X0, J, 0, 0)) rfl trivial ?_
  simp only [e7]
  show Rj _ _ _ _ _ _ (6, [some (.ref 95), some (.int 1)], [.int 1], (SS b true), X0, J, 0, 0)
  refine r_ifc okX5_readLine rfl (fun (h6 : (1 : Int32) = (0 : Int32)) => ?_) (fun (h6 : ¬ (1 : Int32) = (0 : Int32)) => ?_)
  · exact absurd h6 (by decide)
  · refine r_run okX5_readLine 2 (cs := []) (σ' := (11, [some (.ref 95), some (.int 1)], [.int 1, .int 1], (SS b true), X0, J, 0, 0)) rfl trivial ?_
    refine r_icmp okX5_readLine rfl (fun (h11 : (1 : Int32) = (1 : Int32)) => ?_) (fun (h11 : ¬ (1 : Int32) = (1 : Int32)) => ?_)
    · refine r_run okX5_readLine 2 (cs := []) (σ' := (29, [some (.ref 95), some (.int 1)], [.ref 79], (SS b true), X0, J, 0, 0)) rfl trivial ?_
      refine r_callV okX5_readLine okX6_size [] [] 79 rfl rfl rfl kkX6_size rfl rfl (by decide) rfl rfl rfl (by decide) ⟨Nat.le_refl _, Nat.le_refl _⟩ (Nat.le_of_ble_eq_true rfl) (o_rsize79 γ) (fun v1 S1 I1 J1 hp => ?_)
      obtain ⟨rfl, rfl, rfl, rfl⟩ := hp
      show Rj _ _ _ _ _ _ (32, [some (.ref 95), some (.int 1)], [.int (X0 79 8)], (SS b true), X0, J, 0, 0)
      simp only [em]
      show Rj _ _ _ _ _ _ (32, [some (.ref 95), some (.int 1)], [.int (nI m)], (SS b true), X0, J, 0, 0)
      refine r_run okX5_readLine 1 (cs := []) (σ' := (34, [some (.ref 95), some (.int 1)], [.int 16, .int (nI m)], (SS b true), X0, J, 0, 0)) rfl trivial ?_
      refine r_icmp okX5_readLine rfl (fun (h34 : (nI m) < (16 : Int32)) => ?_) (fun (h34 : ¬ (nI m) < (16 : Int32)) => ?_)
      · refine r_run okX5_readLine 1 (cs := []) (σ' := (44, [some (.ref 95), some (.int 1)], [.ref 95], (SS b true), X0, J, 0, 0)) rfl trivial ?_
        refine r_callV okX5_readLine okX5_advance [] [] 95 rfl rfl rfl kkX5_advance rfl rfl (by decide) rfl rfl rfl (by decide) ⟨Nat.le_refl _, Nat.le_refl _⟩ (Nat.le_of_ble_eq_true rfl) (b_adv79 γ hT hP hi) (fun v1 S1 I1 J1 hp => ?_)
        obtain ⟨rfl, rfl, ⟨fa, pa⟩, rfl⟩ := hp
        obtain ⟨Xa, eXa⟩ : ∃ z, z = I1 := ⟨_, rfl⟩
        subst eXa
        have hTa : Tkn T n N Xa := Tkn_k (A := 79) (by decide) (f9_X fa) hT
        have hOa := OuO_9 (by decide) fa hO
        have ema : Xa 79 8 = nI m := (fa 79 8 rfl).trans em
        show Rj _ _ _ _ _ _ (47, [some (.ref 95), some (.int 1)], [], (SS b true), Xa, J, 0, 0)
        refine r_run okX5_readLine 3 (cs := []) (σ' := (52, [some (.ref 95), some (.int 1)], [.int 1, .ref 79], (SS b true), Xa, J, 0, 0)) rfl trivial ?_
        refine r_callV okX5_readLine okX6_openLine [.int 1] [] 79 rfl rfl rfl kkX6_openLine rfl rfl (by decide) rfl rfl rfl (by decide) ⟨Nat.le_refl _, Nat.le_refl _⟩ (Nat.le_of_ble_eq_true rfl) (c_open79 γ hOa hm ema 1) (fun v1 S1 I1 J1 hp => ?_)
        obtain ⟨rfl, rfl, ⟨fo, o3, o4, o8⟩, rfl⟩ := hp
        obtain ⟨Xo, eXo⟩ : ∃ z, z = I1 := ⟨_, rfl⟩
        subst eXo
        have hTo : Tkn T n N Xo := Tkn_N (A := 79) (by decide) fo hTa
        have hPo : PsO T n N Xo (i + 1) := PsO_N (A := 79) (by decide) fo pa
        have hOo := OuO_N fo hOa
        have hfo : fr (qL5 79 m) X0 Xo := fr_t (fX_L (f9_X fa)) (fN_L fo)
        show Rj _ _ _ _ _ _ (55, [some (.ref 95), some (.int 1)], [], (SS b true), Xo, J, 0, 0)
        refine r_run okX5_readLine 1 (cs := []) (σ' := (56, [some (.ref 95), some (.int 1)], [.int 1], (SS b true), Xo, J, 0, 0)) rfl trivial ?_
        refine r_ifc okX5_readLine rfl (fun (h56 : ¬ (1 : Int32) = (0 : Int32)) => ?_) (fun h560 => ?_)
        · exact rl_tail79 γ (c1 := []) 1 hm hTo hPo (by rw [app_n]; exact hOo) (by rw [app_n]; omega) o8 o3 o4 hfo (fun res hr => by unfold RdL; rw [if_pos (by rw [h]; decide), if_neg (by omega), h]; exact ⟨.inr ([], i + 1), by unfold LnE; rw [if_neg (by decide)], Or.inr ⟨_, rfl, hr⟩⟩)
        · have h56 : (1 : Int32) = (0 : Int32) := Classical.not_not.mp h560
          exact absurd h56 (by decide)
      · exact absurd (nI_lt (a := m) (b := 16) hm (by decide)) h34
    · exact absurd h11 (by decide)
theorem rl_full2_79 (γ : GE) {b : Bool} {J : AJ} {T : Nat → Int32} {n N i m : Nat} {l : Cd} {X0 : AI} (hT : Tkn T n N X0) (hP : PsO T n N X0 i) (hO : OuO X0 79 l) (hl : l.length ≤ i) (em : X0 79 8 = nI m) (h : kK T n i = 2) (m16 : m = 16) : Ct γ mX5_readLine 21 0 0 [.ref 95] (SS b true) X0 J (fun r S' I' J' => (SS b true) = S' ∧ J = J' ∧ ∃ res, RdL T n m i res ∧ RsL T n N 79 m X0 l res r I') := by
  have hN := hT.1
  have hiN := hP.1
  have e7 : X0 95 7 = 2 := hP.2.2.1.trans h
  refine ct_of okX5_readLine (L := [some (.ref 95), none]) (Nat.le_of_ble_eq_true rfl) rfl ?_
  refine r_run okX5_readLine 4 (cs := []) (σ' := (6, [some (.ref 95), some (.int (X0 95 7))], [.int (X0 95 7)], (SS b true), X0, J, 0, 0)) rfl trivial ?_
  simp only [e7]
  show Rj _ _ _ _ _ _ (6, [some (.ref 95), some (.int 2)], [.int 2], (SS b true), X0, J, 0, 0)
  refine r_ifc okX5_readLine rfl (fun (h6 : (2 : Int32) = (0 : Int32)) => ?_) (fun (h6 : ¬ (2 : Int32) = (0 : Int32)) => ?_)
  · exact absurd h6 (by decide)
  · refine r_run okX5_readLine 2 (cs := []) (σ' := (11, [some (.ref 95), some (.int 2)], [.int 1, .int 2], (SS b true), X0, J, 0, 0)) rfl trivial ?_
    refine r_icmp okX5_readLine rfl (fun (h11 : (2 : Int32) = (1 : Int32)) => ?_) (fun (h11 : ¬ (2 : Int32) = (1 : Int32)) => ?_)
    · exact absurd h11 (by decide)
    · refine r_run okX5_readLine 2 (cs := []) (σ' := (16, [some (.ref 95), some (.int 2)], [.int 2, .int 2], (SS b true), X0, J, 0, 0)) rfl trivial ?_
      refine r_icmp okX5_readLine rfl (fun (h16 : (2 : Int32) = (2 : Int32)) => ?_) (fun (h16 : ¬ (2 : Int32) = (2 : Int32)) => ?_)
      · refine r_run okX5_readLine 2 (cs := []) (σ' := (29, [some (.ref 95), some (.int 2)], [.ref 79], (SS b true), X0, J, 0, 0)) rfl trivial ?_
        refine r_callV okX5_readLine okX6_size [] [] 79 rfl rfl rfl kkX6_size rfl rfl (by decide) rfl rfl rfl (by decide) ⟨Nat.le_refl _, Nat.le_refl _⟩ (Nat.le_of_ble_eq_true rfl) (o_rsize79 γ) (fun v1 S1 I1 J1 hp => ?_)
        obtain ⟨rfl, rfl, rfl, rfl⟩ := hp
        show Rj _ _ _ _ _ _ (32, [some (.ref 95), some (.int 2)], [.int (X0 79 8)], (SS b true), X0, J, 0, 0)
        simp only [em]
        show Rj _ _ _ _ _ _ (32, [some (.ref 95), some (.int 2)], [.int (nI m)], (SS b true), X0, J, 0, 0)
        refine r_run okX5_readLine 1 (cs := []) (σ' := (34, [some (.ref 95), some (.int 2)], [.int 16, .int (nI m)], (SS b true), X0, J, 0, 0)) rfl trivial ?_
        refine r_icmp okX5_readLine rfl (fun (h34 : (nI m) < (16 : Int32)) => ?_) (fun (h34 : ¬ (nI m) < (16 : Int32)) => ?_)
        · rw [m16] at h34
          exact absurd h34 (by decide)
        · refine r_run okX5_readLine 2 (cs := []) (σ' := (39, [some (.ref 95), some (.int 2)], [.int 3, .ref 95], (SS b true), X0, J, 0, 0)) rfl trivial ?_
          refine r_callV okX5_readLine okX5_refuse [.int 3] [] 95 rfl rfl rfl kkX5_refuse rfl rfl (by decide) rfl rfl rfl (by decide) ⟨Nat.le_refl _, Nat.le_refl _⟩ (Nat.le_of_ble_eq_true rfl) (b_ref79 γ hT hP 3) (fun v1 S1 I1 J1 hp => ?_)
          obtain ⟨rfl, rfl, ⟨fr1, fl1⟩, rfl⟩ := hp
          obtain ⟨Xr, eXr⟩ : ∃ z, z = I1 := ⟨_, rfl⟩
          subst eXr
          show Rj _ _ _ _ _ _ (42, [some (.ref 95), some (.int 2)], [.int 0], (SS b true), Xr, J, 0, 0)
          refine r_iret okX5_readLine rfl rfl (by decide +kernel) (Nat.le_refl _) (Nat.le_refl _) ?_
          exact ⟨rfl, rfl, .inl (3, i), by unfold RdL; rw [if_pos (by rw [h]; decide), if_pos m16], fX_L (f9_X fr1), rfl, fl1⟩
      · exact absurd h16 (by decide)
theorem rl_tok2_79 (γ : GE) {b : Bool} {J : AJ} {T : Nat → Int32} {n N i m : Nat} {l : Cd} {X0 : AI} (hT : Tkn T n N X0) (hP : PsO T n N X0 i) (hO : OuO X0 79 l) (hl : l.length ≤ i) (em : X0 79 8 = nI m) (h : kK T n i = 2) (hm : m < 16) : Ct γ mX5_readLine 21 0 0 [.ref 95] (SS b true) X0 J (fun r S' I' J' => (SS b true) = S' ∧ J = J' ∧ ∃ res, RdL T n m i res ∧ RsL T n N 79 m X0 l res r I') := by
  have hN := hT.1
  have hiN := hP.1
  have e7 : X0 95 7 = 2 := hP.2.2.1.trans h
  have hi : i < N := kK_lt hT hiN (by rw [h]; decide)
  refine ct_of okX5_readLine (L := [some (.ref 95), none]) (Nat.le_of_ble_eq_true rfl) rfl ?_
  refine r_run okX5_readLine 4 (cs := []) (σ' := (6, [some (.ref 95), some (.int (X0 95 7))], [.int (X0 95 7)], (SS b true), X0, J, 0, 0)) rfl trivial ?_
  simp only [e7]
  show Rj _ _ _ _ _ _ (6, [some (.ref 95), some (.int 2)], [.int 2], (SS b true), X0, J, 0, 0)
  refine r_ifc okX5_readLine rfl (fun (h6 : (2 : Int32) = (0 : Int32)) => ?_) (fun (h6 : ¬ (2 : Int32) = (0 : Int32)) => ?_)
  · exact absurd h6 (by decide)
  · refine r_run okX5_readLine 2 (cs := []) (σ' := (11, [some (.ref 95), some (.int 2)], [.int 1, .int 2], (SS b true), X0, J, 0, 0)) rfl trivial ?_
    refine r_icmp okX5_readLine rfl (fun (h11 : (2 : Int32) = (1 : Int32)) => ?_) (fun (h11 : ¬ (2 : Int32) = (1 : Int32)) => ?_)
    · exact absurd h11 (by decide)
    · refine r_run okX5_readLine 2 (cs := []) (σ' := (16, [some (.ref 95), some (.int 2)], [.int 2, .int 2], (SS b true), X0, J, 0, 0)) rfl trivial ?_
      refine r_icmp okX5_readLine rfl (fun (h16 : (2 : Int32) = (2 : Int32)) => ?_) (fun (h16 : ¬ (2 : Int32) = (2 : Int32)) => ?_)
      · refine r_run okX5_readLine 2 (cs := []) (σ' := (29, [some (.ref 95), some (.int 2)], [.ref 79], (SS b true), X0, J, 0, 0)) rfl trivial ?_
        refine r_callV okX5_readLine okX6_size [] [] 79 rfl rfl rfl kkX6_size rfl rfl (by decide) rfl rfl rfl (by decide) ⟨Nat.le_refl _, Nat.le_refl _⟩ (Nat.le_of_ble_eq_true rfl) (o_rsize79 γ) (fun v1 S1 I1 J1 hp => ?_)
        obtain ⟨rfl, rfl, rfl, rfl⟩ := hp
        show Rj _ _ _ _ _ _ (32, [some (.ref 95), some (.int 2)], [.int (X0 79 8)], (SS b true), X0, J, 0, 0)
        simp only [em]
        show Rj _ _ _ _ _ _ (32, [some (.ref 95), some (.int 2)], [.int (nI m)], (SS b true), X0, J, 0, 0)
        refine r_run okX5_readLine 1 (cs := []) (σ' := (34, [some (.ref 95), some (.int 2)], [.int 16, .int (nI m)], (SS b true), X0, J, 0, 0)) rfl trivial ?_
        refine r_icmp okX5_readLine rfl (fun (h34 : (nI m) < (16 : Int32)) => ?_) (fun (h34 : ¬ (nI m) < (16 : Int32)) => ?_)
        · refine r_run okX5_readLine 1 (cs := []) (σ' := (44, [some (.ref 95), some (.int 2)], [.ref 95], (SS b true), X0, J, 0, 0)) rfl trivial ?_
          refine r_callV okX5_readLine okX5_advance [] [] 95 rfl rfl rfl kkX5_advance rfl rfl (by decide) rfl rfl rfl (by decide) ⟨Nat.le_refl _, Nat.le_refl _⟩ (Nat.le_of_ble_eq_true rfl) (b_adv79 γ hT hP hi) (fun v1 S1 I1 J1 hp => ?_)
          obtain ⟨rfl, rfl, ⟨fa, pa⟩, rfl⟩ := hp
          obtain ⟨Xa, eXa⟩ : ∃ z, z = I1 := ⟨_, rfl⟩
          subst eXa
          have hTa : Tkn T n N Xa := Tkn_k (A := 79) (by decide) (f9_X fa) hT
          have hOa := OuO_9 (by decide) fa hO
          have ema : Xa 79 8 = nI m := (fa 79 8 rfl).trans em
          show Rj _ _ _ _ _ _ (47, [some (.ref 95), some (.int 2)], [], (SS b true), Xa, J, 0, 0)
          refine r_run okX5_readLine 3 (cs := []) (σ' := (52, [some (.ref 95), some (.int 2)], [.int 2, .ref 79], (SS b true), Xa, J, 0, 0)) rfl trivial ?_
          refine r_callV okX5_readLine okX6_openLine [.int 2] [] 79 rfl rfl rfl kkX6_openLine rfl rfl (by decide) rfl rfl rfl (by decide) ⟨Nat.le_refl _, Nat.le_refl _⟩ (Nat.le_of_ble_eq_true rfl) (c_open79 γ hOa hm ema 2) (fun v1 S1 I1 J1 hp => ?_)
          obtain ⟨rfl, rfl, ⟨fo, o3, o4, o8⟩, rfl⟩ := hp
          obtain ⟨Xo, eXo⟩ : ∃ z, z = I1 := ⟨_, rfl⟩
          subst eXo
          have hTo : Tkn T n N Xo := Tkn_N (A := 79) (by decide) fo hTa
          have hPo : PsO T n N Xo (i + 1) := PsO_N (A := 79) (by decide) fo pa
          have hOo := OuO_N fo hOa
          have hfo : fr (qL5 79 m) X0 Xo := fr_t (fX_L (f9_X fa)) (fN_L fo)
          show Rj _ _ _ _ _ _ (55, [some (.ref 95), some (.int 2)], [], (SS b true), Xo, J, 0, 0)
          refine r_run okX5_readLine 1 (cs := []) (σ' := (56, [some (.ref 95), some (.int 2)], [.int 2], (SS b true), Xo, J, 0, 0)) rfl trivial ?_
          refine r_ifc okX5_readLine rfl (fun (h56 : ¬ (2 : Int32) = (0 : Int32)) => ?_) (fun h560 => ?_)
          · exact rl_tail79 γ (c1 := []) 2 hm hTo hPo (by rw [app_n]; exact hOo) (by rw [app_n]; omega) o8 o3 o4 hfo (fun res hr => by unfold RdL; rw [if_pos (by rw [h]; decide), if_neg (by omega), h]; exact ⟨.inr ([], i + 1), by unfold LnE; rw [if_neg (by decide)], Or.inr ⟨_, rfl, hr⟩⟩)
          · have h56 : (2 : Int32) = (0 : Int32) := Classical.not_not.mp h560
            exact absurd h56 (by decide)
        · exact absurd (nI_lt (a := m) (b := 16) hm (by decide)) h34
      · exact absurd h16 (by decide)
theorem b_line79 (γ : GE) {b : Bool} {J : AJ} {T : Nat → Int32} {n N i m : Nat} {l : Cd} {X0 : AI} (hT : Tkn T n N X0) (hP : PsO T n N X0 i) (hO : OuO X0 79 l) (hl : l.length ≤ i) (em : X0 79 8 = nI m) (hm : m ≤ 16) : Ct γ mX5_readLine 21 0 0 [.ref 95] (SS b true) X0 J (fun r S' I' J' => (SS b true) = S' ∧ J = J' ∧ ∃ res, RdL T n m i res ∧ RsL T n N 79 m X0 l res r I') := by
  by_cases k02 : inB (kK T n i) 0 2 = true
  · obtain ⟨z, hz, ez⟩ := inB_rg (n := 2) (by decide) k02
    by_cases h16 : m = 16
    · rcases (by omega : z = 0 ∨ z = 1 ∨ z = 2) with rfl | rfl | rfl
      · exact rl_full0_79 γ hT hP hO hl em ez h16
      · exact rl_full1_79 γ hT hP hO hl em ez h16
      · exact rl_full2_79 γ hT hP hO hl em ez h16
    · rcases (by omega : z = 0 ∨ z = 1 ∨ z = 2) with rfl | rfl | rfl
      · exact rl_tok0_79 γ hT hP hO hl em ez (by omega)
      · exact rl_tok1_79 γ hT hP hO hl em ez (by omega)
      · exact rl_tok2_79 γ hT hP hO hl em ez (by omega)
  · exact rl_no79 γ hT hP hO hl em k02
def qR79 (a b : Nat) : Bool := a == 95 || (a == 97 || (a == 98 || (a == 99 || (Nat.ble 79 a && Nat.ble a 85))))
theorem fT_R79 {X Y : AI} (h : fr qT X Y) : fr qR79 X Y := fr_m (fun a b z => by
  unfold qR79 at z; unfold qT; simp only [Bool.or_eq_false_iff] at z ⊢; exact ⟨by rw [z.1]; rfl, z.2.1, z.2.2.1, z.2.2.2.1⟩) h
theorem fL_R79 {m : Nat} {X Y : AI} (h : fr (qL5 79 m) X Y) : fr qR79 X Y := fr_m (fun a b z => by
  unfold qR79 at z; simp only [Bool.or_eq_false_iff, Bool.and_eq_false_iff] at z
  have hb : ¬ (79 ≤ a ∧ a ≤ 85) := fun y => by
    rcases z.2.2.2.2 with q | q
    · exact absurd (Nat.ble_eq_true_of_le y.1) (by rw [q]; decide)
    · exact absurd (Nat.ble_eq_true_of_le y.2) (by rw [q]; decide)
  unfold qL5 qX q95 qA qN
  rw [z.1, show (a == 79) = false from beq_eq_false_iff_ne.mpr (by omega), show (a == 79 + 1) = false from beq_eq_false_iff_ne.mpr (by omega), show (a == 79 + 2) = false from beq_eq_false_iff_ne.mpr (by omega), show (a == 79 + 3) = false from beq_eq_false_iff_ne.mpr (by omega), show (a == 79 + 4) = false from beq_eq_false_iff_ne.mpr (by omega), show (a == 79 + 5) = false from beq_eq_false_iff_ne.mpr (by omega), show (a == 79 + 6) = false from beq_eq_false_iff_ne.mpr (by omega)]; rfl) h
def RsR79 (T : Nat → Int32) (n : Nat) (X : AI) (res : RR) (r : Option Value) (X' : AI) : Prop := fr qR79 X X' ∧ X' 95 4 = 0 ∧ match res with
  | .inl e => some (Value.int 0) = r ∧ FlO T n X' e
  | .inr ls => some (Value.int 1) = r ∧ X' 95 8 = 0 ∧ X' 95 9 = -1 ∧ ls.length ≤ 16 ∧ X' 79 8 = nI ls.length ∧ ∀ k q, ls[k]? = some q → OLn X' 79 k q
theorem lp_rd79 (γ : GE) {b : Bool} {J : AJ} {T : Nat → Int32} {n N : Nat} {X0 : AI} : ∀ (j i : Nat) (acc : List Ln) (X : AI), N ≤ i + j → acc.length ≤ 16 → Tkn T n N X → PsO T n N X i → OuO X 79 (cdC acc) → (cdC acc).length ≤ i → X 79 8 = nI acc.length → LnO X 79 0 0 acc → fr qR79 X0 X → (∀ res, (∃ f, RdT T n f i acc res) → ∃ f, RdT T n f 0 [] res) → Rj γ mX5_read 22 0 0 (fun r S' I' J' => (SS b true) = S' ∧ J = J' ∧ ∃ res, (∃ f, RdT T n f 0 [] res) ∧ RsR79 T n X0 res r I') (45, [some (.ref 95), some (.ref 79), some (.int 1), some (.int (nI acc.length))], [], (SS b true), X, J, 0, 0) := by
  intro j
  induction j with
  | zero =>
    intro i acc X hj h16 hT hP hO hl em hL hf hd
    have hN := hT.1
    have hiN := hP.1
    have e7 := hP.2.2.1
    have k17 : kK T n i = 17 := by rw [show i = N by omega]; exact hT.2.1
    have e17 : X 95 7 = 17 := e7.trans k17
    refine r_run okX5_read 2 (cs := []) (σ' := (48, [some (.ref 95), some (.ref 79), some (.int 1), some (.int (nI acc.length))], [.int 16, .int (nI acc.length)], (SS b true), X, J, 0, 0)) rfl trivial ?_
    refine r_icmp okX5_read rfl (fun (h48 : (16 : Int32) < (nI acc.length)) => ?_) (fun (h48 : ¬ (16 : Int32) < (nI acc.length)) => ?_)
    · exact absurd h48 (nI_nlt (a := 16) (b := acc.length) (by omega) (by decide))
    · refine r_run okX5_read 1 (cs := []) (σ' := (52, [some (.ref 95), some (.ref 79), some (.int 1), some (.int (nI acc.length))], [.int 1], (SS b true), X, J, 0, 0)) rfl trivial ?_
      refine r_ifc okX5_read rfl (fun (h52 : (1 : Int32) = (0 : Int32)) => ?_) (fun (h52 : ¬ (1 : Int32) = (0 : Int32)) => ?_)
      · exact absurd h52 (by decide)
      · refine r_run okX5_read 3 (cs := []) (σ' := (61, [some (.ref 95), some (.ref 79), some (.int 1), some (.int (nI acc.length))], [.int 17, .int (X 95 7)], (SS b true), X, J, 0, 0)) rfl trivial ?_
        simp only [e17]
        show Rj _ _ _ _ _ _ (61, [some (.ref 95), some (.ref 79), some (.int 1), some (.int (nI acc.length))], [.int 17, .int 17], (SS b true), X, J, 0, 0)
        refine r_icmp okX5_read rfl (fun (h61 : (17 : Int32) = (17 : Int32)) => ?_) (fun (h61 : ¬ (17 : Int32) = (17 : Int32)) => ?_)
        · refine r_run okX5_read 4 (cs := []) (σ' := (81, [some (.ref 95), some (.ref 79), some (.int 1), some (.int (nI acc.length))], [.int 1], (SS b true), (upI X 95 4 0), J, 0, 0)) rfl trivial ?_
          refine r_iret okX5_read rfl rfl (by decide +kernel) (Nat.le_refl _) (Nat.le_refl _) ?_
          have hs : RdT T n 1 i acc (.inr acc) := by unfold RdT; rw [if_neg (by rw [k17]; decide), if_pos k17]
          refine ⟨rfl, rfl, .inr acc, hd _ ⟨1, hs⟩, fr_t hf (up_q rfl), upI_s, rfl, ?_, ?_, h16, ?_, fun k q hq => ?_⟩
          · rw [upI_n (by decide)]; exact hP.2.2.2.1
          · rw [upI_n (by decide)]; exact hP.2.2.2.2
          · rw [upI_ne (by decide)]; exact em
          · have z := LnO_rul (LnO_lt (Y := upI X 95 4 0) (fun a j h _ => by rw [upI_ne (by omega)]) hL) (cdT_k (upI_ne (by decide)) (upI_ne (by decide)) hO.2) (by omega) k q hq
            rw [Nat.zero_add] at z
            exact z
        · exact absurd h61 (by decide)
  | succ j ih =>
    intro i acc X hj h16 hT hP hO hl em hL hf hd
    have hN := hT.1
    have hiN := hP.1
    have e7 := hP.2.2.1
    by_cases k17 : kK T n i = 17
    · have e17 : X 95 7 = 17 := e7.trans k17
      refine r_run okX5_read 2 (cs := []) (σ' := (48, [some (.ref 95), some (.ref 79), some (.int 1), some (.int (nI acc.length))], [.int 16, .int (nI acc.length)], (SS b true), X, J, 0, 0)) rfl trivial ?_
      refine r_icmp okX5_read rfl (fun (h48 : (16 : Int32) < (nI acc.length)) => ?_) (fun (h48 : ¬ (16 : Int32) < (nI acc.length)) => ?_)
      · exact absurd h48 (nI_nlt (a := 16) (b := acc.length) (by omega) (by decide))
      · refine r_run okX5_read 1 (cs := []) (σ' := (52, [some (.ref 95), some (.ref 79), some (.int 1), some (.int (nI acc.length))], [.int 1], (SS b true), X, J, 0, 0)) rfl trivial ?_
        refine r_ifc okX5_read rfl (fun (h52 : (1 : Int32) = (0 : Int32)) => ?_) (fun (h52 : ¬ (1 : Int32) = (0 : Int32)) => ?_)
        · exact absurd h52 (by decide)
        · refine r_run okX5_read 3 (cs := []) (σ' := (61, [some (.ref 95), some (.ref 79), some (.int 1), some (.int (nI acc.length))], [.int 17, .int (X 95 7)], (SS b true), X, J, 0, 0)) rfl trivial ?_
          simp only [e17]
          show Rj _ _ _ _ _ _ (61, [some (.ref 95), some (.ref 79), some (.int 1), some (.int (nI acc.length))], [.int 17, .int 17], (SS b true), X, J, 0, 0)
          refine r_icmp okX5_read rfl (fun (h61 : (17 : Int32) = (17 : Int32)) => ?_) (fun (h61 : ¬ (17 : Int32) = (17 : Int32)) => ?_)
          · refine r_run okX5_read 4 (cs := []) (σ' := (81, [some (.ref 95), some (.ref 79), some (.int 1), some (.int (nI acc.length))], [.int 1], (SS b true), (upI X 95 4 0), J, 0, 0)) rfl trivial ?_
            refine r_iret okX5_read rfl rfl (by decide +kernel) (Nat.le_refl _) (Nat.le_refl _) ?_
            have hs : RdT T n 1 i acc (.inr acc) := by unfold RdT; rw [if_neg (by rw [k17]; decide), if_pos k17]
            refine ⟨rfl, rfl, .inr acc, hd _ ⟨1, hs⟩, fr_t hf (up_q rfl), upI_s, rfl, ?_, ?_, h16, ?_, fun k q hq => ?_⟩
            · rw [upI_n (by decide)]; exact hP.2.2.2.1
            · rw [upI_n (by decide)]; exact hP.2.2.2.2
            · rw [upI_ne (by decide)]; exact em
            · have z := LnO_rul (LnO_lt (Y := upI X 95 4 0) (fun a j h _ => by rw [upI_ne (by omega)]) hL) (cdT_k (upI_ne (by decide)) (upI_ne (by decide)) hO.2) (by omega) k q hq
              rw [Nat.zero_add] at z
              exact z
          · exact absurd h61 (by decide)
    refine r_run okX5_read 2 (cs := []) (σ' := (48, [some (.ref 95), some (.ref 79), some (.int 1), some (.int (nI acc.length))], [.int 16, .int (nI acc.length)], (SS b true), X, J, 0, 0)) rfl trivial ?_
    refine r_icmp okX5_read rfl (fun (h48 : (16 : Int32) < (nI acc.length)) => ?_) (fun (h48 : ¬ (16 : Int32) < (nI acc.length)) => ?_)
    · exact absurd h48 (nI_nlt (a := 16) (b := acc.length) (by omega) (by decide))
    · refine r_run okX5_read 1 (cs := []) (σ' := (52, [some (.ref 95), some (.ref 79), some (.int 1), some (.int (nI acc.length))], [.int 1], (SS b true), X, J, 0, 0)) rfl trivial ?_
      refine r_ifc okX5_read rfl (fun (h52 : (1 : Int32) = (0 : Int32)) => ?_) (fun (h52 : ¬ (1 : Int32) = (0 : Int32)) => ?_)
      · exact absurd h52 (by decide)
      · refine r_run okX5_read 3 (cs := []) (σ' := (61, [some (.ref 95), some (.ref 79), some (.int 1), some (.int (nI acc.length))], [.int 17, .int (X 95 7)], (SS b true), X, J, 0, 0)) rfl trivial ?_
        simp only [e7]
        show Rj _ _ _ _ _ _ (61, [some (.ref 95), some (.ref 79), some (.int 1), some (.int (nI acc.length))], [.int 17, .int (kK T n i)], (SS b true), X, J, 0, 0)
        refine r_icmp okX5_read rfl (fun (h61 : (kK T n i) = (17 : Int32)) => ?_) (fun (h61 : ¬ (kK T n i) = (17 : Int32)) => ?_)
        · exact absurd h61 k17
        · refine r_run okX5_read 1 (cs := []) (σ' := (65, [some (.ref 95), some (.ref 79), some (.int 1), some (.int (nI acc.length))], [.ref 95], (SS b true), X, J, 0, 0)) rfl trivial ?_
          refine r_callV okX5_read okX5_readLine [] [] 95 rfl rfl rfl kkX5_readLine rfl rfl (by decide) rfl rfl rfl (by decide) ⟨Nat.le_refl _, Nat.le_refl _⟩ (Nat.le_of_ble_eq_true rfl) (b_line79 γ hT hP hO hl em h16) (fun v1 S1 I1 J1 hp => ?_)
          obtain ⟨rfl, rfl, res, hc, hfr, hr⟩ := hp
          obtain ⟨Xu, eXu⟩ : ∃ z, z = I1 := ⟨_, rfl⟩
          subst eXu
          cases res with
          | inl e =>
            obtain ⟨rfl, gE⟩ := hr
            show Rj _ _ _ _ _ _ (68, [some (.ref 95), some (.ref 79), some (.int 1), some (.int (nI acc.length))], [.int 0], (SS b true), Xu, J, 0, 0)
            refine r_run okX5_read 5 (cs := []) (σ' := (48, [some (.ref 95), some (.ref 79), some (.int 0), some (.int ((nI acc.length) + 1))], [.int 16, .int ((nI acc.length) + 1)], (SS b true), Xu, J, 0, 0)) rfl trivial ?_
            refine r_icmp okX5_read rfl (fun (h48_1 : (16 : Int32) < ((nI acc.length) + 1)) => ?_) (fun (h48_1 : ¬ (16 : Int32) < ((nI acc.length) + 1)) => ?_)
            · refine r_run okX5_read 4 (cs := []) (σ' := (81, [some (.ref 95), some (.ref 79), some (.int 0), some (.int ((nI acc.length) + 1))], [.int 0], (SS b true), (upI Xu 95 4 0), J, 0, 0)) rfl trivial ?_
              refine r_iret okX5_read rfl rfl (by decide +kernel) (Nat.le_refl _) (Nat.le_refl _) ?_
              exact ⟨rfl, rfl, .inl e, hd _ ⟨1, RdL_f hc k17⟩, fr_t (fr_t hf (fL_R79 hfr)) (up_q rfl), upI_s, rfl, by unfold FlO; rw [upI_n (by decide), upI_n (by decide)]; exact gE⟩
            · refine r_run okX5_read 1 (cs := []) (σ' := (52, [some (.ref 95), some (.ref 79), some (.int 0), some (.int ((nI acc.length) + 1))], [.int 0], (SS b true), Xu, J, 0, 0)) rfl trivial ?_
              refine r_ifc okX5_read rfl (fun (h52_1 : (0 : Int32) = (0 : Int32)) => ?_) (fun (h52_1 : ¬ (0 : Int32) = (0 : Int32)) => ?_)
              · refine r_run okX5_read 4 (cs := []) (σ' := (81, [some (.ref 95), some (.ref 79), some (.int 0), some (.int ((nI acc.length) + 1))], [.int 0], (SS b true), (upI Xu 95 4 0), J, 0, 0)) rfl trivial ?_
                refine r_iret okX5_read rfl rfl (by decide +kernel) (Nat.le_refl _) (Nat.le_refl _) ?_
                exact ⟨rfl, rfl, .inl e, hd _ ⟨1, RdL_f hc k17⟩, fr_t (fr_t hf (fL_R79 hfr)) (up_q rfl), upI_s, rfl, by unfold FlO; rw [upI_n (by decide), upI_n (by decide)]; exact gE⟩
              · exact absurd h52_1 (by decide)
          | inr u =>
            obtain ⟨rfl, gP, gO, gl, g3, g4, g5, g6, g8⟩ := hr
            have hTu : Tkn T n N Xu := Tkn_L (A := 79) (by decide) hfr hT
            have hgt : i < u.2 := RdL_lt hc
            have hq2 := gP.1
            show Rj _ _ _ _ _ _ (68, [some (.ref 95), some (.ref 79), some (.int 1), some (.int (nI acc.length))], [.int 1], (SS b true), Xu, J, 0, 0)
            refine r_run okX5_read 3 (cs := []) (σ' := (45, [some (.ref 95), some (.ref 79), some (.int 1), some (.int ((nI acc.length) + 1))], [], (SS b true), Xu, J, 0, 0)) rfl trivial ?_
            rw [← nI_succ]
            have ne16 : ¬ acc.length = 16 := by
              have hc2 := hc
              unfold RdL at hc2
              split at hc2
              · split at hc2
                · cases hc2
                · assumption
              · cases hc2
            have el : (acc ++ [u.1]).length = acc.length + 1 := by simp
            rw [show nI (acc.length + 1) = nI (acc ++ [u.1]).length by rw [el]]
            refine ih u.2 (acc ++ [u.1]) Xu (by omega) (by omega) hTu gP (by rw [cdC_1]; exact gO) (by rw [cdC_1]; exact gl) (by rw [el]; exact g8) (LnO_ap (LnO_lt (fun a j h1 h2 => ?_) hL) ?_ ?_ ?_ ?_) (fr_t hf (fL_R79 hfr)) (fun res hr => ?_)
            · refine hfr a j ?_
              have hjm : (j == acc.length) = false := beq_eq_false_iff_ne.mpr (by omega)
              rcases h1 with rfl | rfl | rfl | rfl <;> (unfold qL5 qN qX q95 qA; rw [hjm]; rfl)
            · rw [Nat.zero_add]; exact g3
            · rw [Nat.zero_add, Nat.zero_add]; exact g4
            · rw [Nat.zero_add, Nat.zero_add]; rw [List.length_append] at g5; exact g5
            · rw [Nat.zero_add, Nat.zero_add]; rw [List.length_append, List.length_append] at g6; exact g6
            · obtain ⟨f, hg⟩ := hr; exact hd res ⟨f + 1, (RdL_s hc hg).1⟩
theorem b_any887 (γ : GE) {b : Bool} {X : AI} {J : AJ} {T : Nat → Int32} {n N i : Nat} {l : Cd} (hT : Tkn T n N X) (hP : PsO T n N X i) (hO : OuO X 87 l) (hl : l.length ≤ i) : Ct γ mX5_readAny 20 0 0 [.ref 95, .int 0] (SS b false) X J (fun rt S' I' J' => (SS b false) = S' ∧ J = J' ∧ ∃ res, An T n (Cn T n 8) i res ∧ RsO T n N 87 X l res rt I') :=
  b_any87 γ b T n N 8 (b_cn87 γ b T n N 8) X J i 0 l rfl hT hP hO hl
theorem c_open87 (γ : GE) {b : Bool} {X : AI} {J : AJ} {l : Cd} {m : Nat} (hO : OuO X 87 l) (hm : m < 16) (em : X 87 8 = nI m) (x : Int32) : Ct γ mX6_openLine 0 0 0 [.ref 87, .int x] (SS b false) X J (fun r S' I' J' => none = r ∧ (SS b false) = S' ∧ (fr (qN 87 m) X I' ∧ I' 90 m = x ∧ I' 91 m = nI l.length ∧ I' 87 8 = nI m) ∧ J = J') :=
  ct_post (fun v S I J z => by obtain ⟨rfl, rfl, rfl, rfl⟩ := z; exact ⟨rfl, rfl, ⟨fr_t (up_q (by unfold qN; simp)) (up_q (by unfold qN; simp)), by rw [upI_ne (by decide), upI_s], by rw [upI_s]; exact hO.1, by rw [upI_ne (by decide), upI_ne (by decide)]; exact em⟩, rfl⟩) (o_openLine87 γ hm em x)
theorem c_when87 (γ : GE) {b : Bool} {X : AI} {J : AJ} {l : Cd} {m : Nat} (hO : OuO X 87 l) (hm : m < 16) (em : X 87 8 = nI m) : Ct γ mX6_openWhen 0 0 0 [.ref 87] (SS b false) X J (fun r S' I' J' => none = r ∧ (SS b false) = S' ∧ (fr (qN 87 m) X I' ∧ I' 90 = X 90 ∧ I' 91 = X 91 ∧ I' 92 m = nI l.length ∧ I' 87 8 = nI m) ∧ J = J') :=
  ct_post (fun v S I J z => by obtain ⟨rfl, rfl, rfl, rfl⟩ := z; exact ⟨rfl, rfl, ⟨up_q (by unfold qN; simp), upI_ne (by decide), upI_ne (by decide), by rw [upI_s]; exact hO.1, by rw [upI_ne (by decide)]; exact em⟩, rfl⟩) (o_openWhen87 γ hm em)
theorem c_close87 (γ : GE) {b : Bool} {X : AI} {J : AJ} {l : Cd} {m : Nat} (hO : OuO X 87 l) (hm : m < 16) (em : X 87 8 = nI m) : Ct γ mX6_closeLine 0 0 0 [.ref 87] (SS b false) X J (fun r S' I' J' => none = r ∧ (SS b false) = S' ∧ (fr (qN 87 m) X I' ∧ I' 90 = X 90 ∧ I' 91 = X 91 ∧ I' 92 = X 92 ∧ I' 93 m = nI l.length ∧ I' 87 8 = nI (m + 1)) ∧ J = J') :=
  ct_post (fun v S I J z => by obtain ⟨rfl, rfl, rfl, rfl⟩ := z; exact ⟨rfl, rfl, ⟨fr_t (up_q (by unfold qN; simp)) (up_q (by unfold qN; simp)), by rw [upI_ne (by decide), upI_ne (by decide)], by rw [upI_ne (by decide), upI_ne (by decide)], by rw [upI_ne (by decide), upI_ne (by decide)], by rw [upI_ne (by decide), upI_s]; exact hO.1, by rw [upI_s, nI_succ]⟩, rfl⟩) (o_closeLine87 γ hm em)
theorem rl_tail87 (γ : GE) {b : Bool} {J : AJ} {T : Nat → Int32} {n N i m : Nat} {l : Cd} {X0 : AI} {X : AI} {j : Nat} {c1 : Cd} (d : Int32) (hm : m < 16) (hT : Tkn T n N X) (hP : PsO T n N X j) (hO : OuO X 87 (l ++ c1)) (hl : (l ++ c1).length ≤ j) (em : X 87 8 = nI m) (d3 : X 90 m = d) (d4 : X 91 m = nI l.length) (hf : fr (qL5 87 m) X0 X) (hd : ∀ res, RdBL T n d (c1, j) res → RdL T n m i res) : Rj γ mX5_readLine 21 0 0 (fun r S' I' J' => (SS b false) = S' ∧ J = J' ∧ ∃ res, RdL T n m i res ∧ RsL T n N 87 m X0 l res r I') (68, [some (.ref 95), some (.int d)], [], (SS b false), X, J, 0, 0) := by
  have hN := hT.1
  have hjN := hP.1
  refine r_run okX5_readLine 2 (cs := []) (σ' := (72, [some (.ref 95), some (.int d)], [.ref 87], (SS b false), X, J, 0, 0)) rfl trivial ?_
  refine r_callV okX5_readLine okX6_openWhen [] [] 87 rfl rfl rfl kkX6_openWhen rfl rfl (by decide) rfl rfl rfl (by decide) ⟨Nat.le_refl _, Nat.le_refl _⟩ (Nat.le_of_ble_eq_true rfl) (c_when87 γ hO hm em) (fun v1 S1 I1 J1 hp => ?_)
  obtain ⟨rfl, rfl, ⟨fw, w3, w4, w5, w8⟩, rfl⟩ := hp
  obtain ⟨Xw, eXw⟩ : ∃ z, z = I1 := ⟨_, rfl⟩
  subst eXw
  have hTw : Tkn T n N Xw := Tkn_N (A := 87) (by decide) fw hT
  have hPw : PsO T n N Xw j := PsO_N (A := 87) (by decide) fw hP
  have hOw := OuO_N fw hO
  have hfw : fr (qL5 87 m) X0 Xw := fr_t hf (fN_L fw)
  by_cases k3 : kK T n j = 3
  · show Rj _ _ _ _ _ _ (75, [some (.ref 95), some (.int d)], [], (SS b false), Xw, J, 0, 0)
    refine r_run okX5_readLine 2 (cs := []) (σ' := (77, [some (.ref 95), some (.int d)], [.int 3, .ref 95], (SS b false), Xw, J, 0, 0)) rfl trivial ?_
    refine r_callV okX5_readLine okX5_take [.int 3] [] 95 rfl rfl rfl kkX5_take rfl rfl (by decide) rfl rfl rfl (by decide) ⟨Nat.le_refl _, Nat.le_refl _⟩ (Nat.le_of_ble_eq_true rfl) (b_take187 γ hTw hPw (kK_lt hTw hPw.1 (by rw [k3]; decide)) k3) (fun v1 S1 I1 J1 hp => ?_)
    obtain ⟨rfl, rfl, ⟨ft, pt⟩, rfl⟩ := hp
    obtain ⟨Xt, eXt⟩ : ∃ z, z = I1 := ⟨_, rfl⟩
    subst eXt
    have hTt : Tkn T n N Xt := Tkn_k (A := 87) (by decide) (f9_X ft) hTw
    have hOt := OuO_9 (by decide) ft hOw
    have hft : fr (qL5 87 m) X0 Xt := fr_t hfw (fX_L (f9_X ft))
    show Rj _ _ _ _ _ _ (80, [some (.ref 95), some (.int d)], [.int 1], (SS b false), Xt, J, 0, 0)
    refine r_ifc okX5_readLine rfl (fun (h80 : (1 : Int32) = (0 : Int32)) => ?_) (fun (h80 : ¬ (1 : Int32) = (0 : Int32)) => ?_)
    · exact absurd h80 (by decide)
    · refine r_run okX5_readLine 2 (cs := []) (σ' := (85, [some (.ref 95), some (.int d)], [.int 0, .ref 95], (SS b false), Xt, J, 0, 0)) rfl trivial ?_
      refine r_callV okX5_readLine okX5_readAny [.int 0] [] 95 rfl rfl rfl kkX5_readAny rfl rfl (by decide) rfl rfl rfl (by decide) ⟨Nat.le_refl _, Nat.le_refl _⟩ (Nat.le_of_ble_eq_true rfl) (b_any887 γ hTt pt hOt (by omega)) (fun v1 S1 I1 J1 hp => ?_)
      obtain ⟨rfl, rfl, res, hc, hfr, hr⟩ := hp
      obtain ⟨Xu, eXu⟩ : ∃ z, z = I1 := ⟨_, rfl⟩
      subst eXu
      cases res with
      | inl e =>
        obtain ⟨rfl, gF, gE⟩ := hr
        show Rj _ _ _ _ _ _ (88, [some (.ref 95), some (.int d)], [.int 0], (SS b false), Xu, J, 0, 0)
        refine r_ifc okX5_readLine rfl (fun (h88 : (0 : Int32) = (0 : Int32)) => ?_) (fun (h88 : ¬ (0 : Int32) = (0 : Int32)) => ?_)
        · refine r_run okX5_readLine 1 (cs := []) (σ' := (101, [some (.ref 95), some (.int d)], [.int 0], (SS b false), Xu, J, 0, 0)) rfl trivial ?_
          refine r_iret okX5_readLine rfl rfl (by decide +kernel) (Nat.le_refl _) (Nat.le_refl _) ?_
          exact ⟨rfl, rfl, .inl e, hd _ (Or.inr ⟨k3, _, hc, Or.inl ⟨e, rfl, rfl⟩⟩), fr_t hft (fX_L hfr), rfl, gE⟩
        · exact absurd h88 (by decide)
      | inr u =>
        obtain ⟨rfl, gP, gO⟩ := hr
        have hq1 := An_len (fun _ _ z => Cn_len z) hc
        have hq3 := len_flt u.1
        have hq2 := gP.1
        have hTu : Tkn T n N Xu := Tkn_k (A := 87) (by decide) hfr hTt
        have hfu : fr (qL5 87 m) X0 Xu := fr_t hft (fX_L hfr)
        by_cases k59 : kK T n u.2 = 59
        · show Rj _ _ _ _ _ _ (88, [some (.ref 95), some (.int d)], [.int 1], (SS b false), Xu, J, 0, 0)
          refine r_ifc okX5_readLine rfl (fun (h88_1 : (1 : Int32) = (0 : Int32)) => ?_) (fun (h88_1 : ¬ (1 : Int32) = (0 : Int32)) => ?_)
          · exact absurd h88_1 (by decide)
          · refine r_run okX5_readLine 2 (cs := []) (σ' := (94, [some (.ref 95), some (.int d)], [.int 59, .ref 95], (SS b false), Xu, J, 0, 0)) rfl trivial ?_
            refine r_callV okX5_readLine okX5_take [.int 59] [] 95 rfl rfl rfl kkX5_take rfl rfl (by decide) rfl rfl rfl (by decide) ⟨Nat.le_refl _, Nat.le_refl _⟩ (Nat.le_of_ble_eq_true rfl) (b_take187 γ hTu gP (kK_lt hTu hq2 (by rw [k59]; decide)) k59) (fun v1 S1 I1 J1 hp => ?_)
            obtain ⟨rfl, rfl, ⟨fv, pv⟩, rfl⟩ := hp
            obtain ⟨Xv, eXv⟩ : ∃ z, z = I1 := ⟨_, rfl⟩
            subst eXv
            have hOv := OuO_9 (by decide) fv gO
            have g8 : fr (qX 87) Xw Xv := fr_t (f9_X ft) (fr_t hfr (f9_X fv))
            have e8 : Xv 87 8 = nI m := (g8 87 8 rfl).trans w8
            have e3 : Xv 90 m = d := (g8 90 m rfl).trans ((congrFun w3 m).trans d3)
            have e4 : Xv 91 m = nI l.length := (g8 91 m rfl).trans ((congrFun w4 m).trans d4)
            have e5 : Xv 92 m = nI (l ++ c1).length := (g8 92 m rfl).trans w5
            show Rj _ _ _ _ _ _ (97, [some (.ref 95), some (.int d)], [.int 1], (SS b false), Xv, J, 0, 0)
            refine r_ifc okX5_readLine rfl (fun (h97 : ¬ (1 : Int32) = (0 : Int32)) => ?_) (fun h970 => ?_)
            · refine r_run okX5_readLine 2 (cs := []) (σ' := (106, [some (.ref 95), some (.int d)], [.ref 87], (SS b false), Xv, J, 0, 0)) rfl trivial ?_
              refine r_callV okX5_readLine okX6_closeLine [] [] 87 rfl rfl rfl kkX6_closeLine rfl rfl (by decide) rfl rfl rfl (by decide) ⟨Nat.le_refl _, Nat.le_refl _⟩ (Nat.le_of_ble_eq_true rfl) (c_close87 γ hOv hm e8) (fun v1 S1 I1 J1 hp => ?_)
              obtain ⟨rfl, rfl, ⟨fz, z3, z4, z5, z6, z8⟩, rfl⟩ := hp
              obtain ⟨Xz, eXz⟩ : ∃ z, z = I1 := ⟨_, rfl⟩
              subst eXz
              show Rj _ _ _ _ _ _ (109, [some (.ref 95), some (.int d)], [], (SS b false), Xz, J, 0, 0)
              refine r_run okX5_readLine 1 (cs := []) (σ' := (110, [some (.ref 95), some (.int d)], [.int 1], (SS b false), Xz, J, 0, 0)) rfl trivial ?_
              refine r_iret okX5_readLine rfl rfl (by decide +kernel) (Nat.le_refl _) (Nat.le_refl _) ?_
              exact ⟨rfl, rfl, .inr ((d, c1, u.1), u.2 + 1), hd _ (Or.inr ⟨k3, _, hc, Or.inr ⟨u, rfl, Or.inr ⟨k59, rfl⟩⟩⟩), fr_t (fr_t hfu (fX_L (f9_X fv))) (fN_L fz), rfl, PsO_N (A := 87) (by decide) fz pv, OuO_N fz hOv, (by simp only [List.length_append, List.length_cons, List.length_nil] at *; omega), (congrFun z3 m).trans e3, (congrFun z4 m).trans e4, (congrFun z5 m).trans e5, z6, z8⟩
            · have h97 : (1 : Int32) = (0 : Int32) := Classical.not_not.mp h970
              exact absurd h97 (by decide)
        · show Rj _ _ _ _ _ _ (88, [some (.ref 95), some (.int d)], [.int 1], (SS b false), Xu, J, 0, 0)
          refine r_ifc okX5_readLine rfl (fun (h88_2 : (1 : Int32) = (0 : Int32)) => ?_) (fun (h88_2 : ¬ (1 : Int32) = (0 : Int32)) => ?_)
          · exact absurd h88_2 (by decide)
          · refine r_run okX5_readLine 2 (cs := []) (σ' := (94, [some (.ref 95), some (.int d)], [.int 59, .ref 95], (SS b false), Xu, J, 0, 0)) rfl trivial ?_
            refine r_callV okX5_readLine okX5_take [.int 59] [] 95 rfl rfl rfl kkX5_take rfl rfl (by decide) rfl rfl rfl (by decide) ⟨Nat.le_refl _, Nat.le_refl _⟩ (Nat.le_of_ble_eq_true rfl) (b_take087 γ hTu gP k59) (fun v1 S1 I1 J1 hp => ?_)
            obtain ⟨rfl, rfl, ⟨fv, lv⟩, rfl⟩ := hp
            obtain ⟨Xv, eXv⟩ : ∃ z, z = I1 := ⟨_, rfl⟩
            subst eXv
            show Rj _ _ _ _ _ _ (97, [some (.ref 95), some (.int d)], [.int 0], (SS b false), Xv, J, 0, 0)
            refine r_ifc okX5_readLine rfl (fun (h97_1 : ¬ (0 : Int32) = (0 : Int32)) => ?_) (fun h97_10 => ?_)
            · exact absurd h97_1 (by decide)
            · have h97_1 : (0 : Int32) = (0 : Int32) := Classical.not_not.mp h97_10
              refine r_run okX5_readLine 1 (cs := []) (σ' := (101, [some (.ref 95), some (.int d)], [.int 0], (SS b false), Xv, J, 0, 0)) rfl trivial ?_
              refine r_iret okX5_readLine rfl rfl (by decide +kernel) (Nat.le_refl _) (Nat.le_refl _) ?_
              exact ⟨rfl, rfl, .inl (1, u.2), hd _ (Or.inr ⟨k3, _, hc, Or.inr ⟨u, rfl, Or.inl ⟨k59, rfl⟩⟩⟩), fr_t hfu (fX_L (f9_X fv)), rfl, lv⟩
  · show Rj _ _ _ _ _ _ (75, [some (.ref 95), some (.int d)], [], (SS b false), Xw, J, 0, 0)
    refine r_run okX5_readLine 2 (cs := []) (σ' := (77, [some (.ref 95), some (.int d)], [.int 3, .ref 95], (SS b false), Xw, J, 0, 0)) rfl trivial ?_
    refine r_callV okX5_readLine okX5_take [.int 3] [] 95 rfl rfl rfl kkX5_take rfl rfl (by decide) rfl rfl rfl (by decide) ⟨Nat.le_refl _, Nat.le_refl _⟩ (Nat.le_of_ble_eq_true rfl) (b_take087 γ hTw hPw k3) (fun v1 S1 I1 J1 hp => ?_)
    obtain ⟨rfl, rfl, ⟨ft, lt⟩, rfl⟩ := hp
    obtain ⟨Xt, eXt⟩ : ∃ z, z = I1 := ⟨_, rfl⟩
    subst eXt
    show Rj _ _ _ _ _ _ (80, [some (.ref 95), some (.int d)], [.int 0], (SS b false), Xt, J, 0, 0)
    refine r_ifc okX5_readLine rfl (fun (h80 : (0 : Int32) = (0 : Int32)) => ?_) (fun (h80 : ¬ (0 : Int32) = (0 : Int32)) => ?_)
    · refine r_run okX5_readLine 1 (cs := []) (σ' := (101, [some (.ref 95), some (.int d)], [.int 0], (SS b false), Xt, J, 0, 0)) rfl trivial ?_
      refine r_iret okX5_readLine rfl rfl (by decide +kernel) (Nat.le_refl _) (Nat.le_refl _) ?_
      exact ⟨rfl, rfl, .inl (1, j), hd _ (Or.inl ⟨k3, rfl⟩), fr_t hfw (fX_L (f9_X ft)), rfl, lt⟩
    · exact absurd h80 (by decide)
theorem rl_no87 (γ : GE) {b : Bool} {J : AJ} {T : Nat → Int32} {n N i m : Nat} {l : Cd} {X0 : AI} (hT : Tkn T n N X0) (hP : PsO T n N X0 i) (hO : OuO X0 87 l) (hl : l.length ≤ i) (em : X0 87 8 = nI m) (k02 : ¬ inB (kK T n i) 0 2 = true) : Ct γ mX5_readLine 21 0 0 [.ref 95] (SS b false) X0 J (fun r S' I' J' => (SS b false) = S' ∧ J = J' ∧ ∃ res, RdL T n m i res ∧ RsL T n N 87 m X0 l res r I') := by
  have hN := hT.1
  have hiN := hP.1
  have e7 := hP.2.2.1
  refine ct_of okX5_readLine (L := [some (.ref 95), none]) (Nat.le_of_ble_eq_true rfl) rfl ?_
  refine r_run okX5_readLine 4 (cs := []) (σ' := (6, [some (.ref 95), some (.int (X0 95 7))], [.int (X0 95 7)], (SS b false), X0, J, 0, 0)) rfl trivial ?_
  simp only [e7]
  show Rj _ _ _ _ _ _ (6, [some (.ref 95), some (.int (kK T n i))], [.int (kK T n i)], (SS b false), X0, J, 0, 0)
  refine r_ifc okX5_readLine rfl (fun (h6 : (kK T n i) = (0 : Int32)) => ?_) (fun (h6 : ¬ (kK T n i) = (0 : Int32)) => ?_)
  · exact absurd (by rw [h6]; decide) k02
  · refine r_run okX5_readLine 2 (cs := []) (σ' := (11, [some (.ref 95), some (.int (kK T n i))], [.int 1, .int (kK T n i)], (SS b false), X0, J, 0, 0)) rfl trivial ?_
    refine r_icmp okX5_readLine rfl (fun (h11 : (kK T n i) = (1 : Int32)) => ?_) (fun (h11 : ¬ (kK T n i) = (1 : Int32)) => ?_)
    · exact absurd (by rw [h11]; decide) k02
    · refine r_run okX5_readLine 2 (cs := []) (σ' := (16, [some (.ref 95), some (.int (kK T n i))], [.int 2, .int (kK T n i)], (SS b false), X0, J, 0, 0)) rfl trivial ?_
      refine r_icmp okX5_readLine rfl (fun (h16 : (kK T n i) = (2 : Int32)) => ?_) (fun (h16 : ¬ (kK T n i) = (2 : Int32)) => ?_)
      · exact absurd (by rw [h16]; decide) k02
      · refine r_run okX5_readLine 2 (cs := []) (σ' := (21, [some (.ref 95), some (.int (kK T n i))], [.int 1, .ref 95], (SS b false), X0, J, 0, 0)) rfl trivial ?_
        refine r_callV okX5_readLine okX5_refuse [.int 1] [] 95 rfl rfl rfl kkX5_refuse rfl rfl (by decide) rfl rfl rfl (by decide) ⟨Nat.le_refl _, Nat.le_refl _⟩ (Nat.le_of_ble_eq_true rfl) (b_ref87 γ hT hP 1) (fun v1 S1 I1 J1 hp => ?_)
        obtain ⟨rfl, rfl, ⟨fr1, fl1⟩, rfl⟩ := hp
        obtain ⟨Xr, eXr⟩ : ∃ z, z = I1 := ⟨_, rfl⟩
        subst eXr
        show Rj _ _ _ _ _ _ (24, [some (.ref 95), some (.int (kK T n i))], [.int 0], (SS b false), Xr, J, 0, 0)
        refine r_iret okX5_readLine rfl rfl (by decide +kernel) (Nat.le_refl _) (Nat.le_refl _) ?_
        exact ⟨rfl, rfl, .inl (1, i), by unfold RdL; rw [if_neg k02], fX_L (f9_X fr1), rfl, fl1⟩
theorem rl_full0_87 (γ : GE) {b : Bool} {J : AJ} {T : Nat → Int32} {n N i m : Nat} {l : Cd} {X0 : AI} (hT : Tkn T n N X0) (hP : PsO T n N X0 i) (hO : OuO X0 87 l) (hl : l.length ≤ i) (em : X0 87 8 = nI m) (h : kK T n i = 0) (m16 : m = 16) : Ct γ mX5_readLine 21 0 0 [.ref 95] (SS b false) X0 J (fun r S' I' J' => (SS b false) = S' ∧ J = J' ∧ ∃ res, RdL T n m i res ∧ RsL T n N 87 m X0 l res r I') := by
  have hN := hT.1
  have hiN := hP.1
  have e7 : X0 95 7 = 0 := hP.2.2.1.trans h
  refine ct_of okX5_readLine (L := [some (.ref 95), none]) (Nat.le_of_ble_eq_true rfl) rfl ?_
  refine r_run okX5_readLine 4 (cs := []) (σ' := (6, [some (.ref 95), some (.int (X0 95 7))], [.int (X0 95 7)], (SS b false), X0, J, 0, 0)) rfl trivial ?_
  simp only [e7]
  show Rj _ _ _ _ _ _ (6, [some (.ref 95), some (.int 0)], [.int 0], (SS b false), X0, J, 0, 0)
  refine r_ifc okX5_readLine rfl (fun (h6 : (0 : Int32) = (0 : Int32)) => ?_) (fun (h6 : ¬ (0 : Int32) = (0 : Int32)) => ?_)
  · refine r_run okX5_readLine 2 (cs := []) (σ' := (29, [some (.ref 95), some (.int 0)], [.ref 87], (SS b false), X0, J, 0, 0)) rfl trivial ?_
    refine r_callV okX5_readLine okX6_size [] [] 87 rfl rfl rfl kkX6_size rfl rfl (by decide) rfl rfl rfl (by decide) ⟨Nat.le_refl _, Nat.le_refl _⟩ (Nat.le_of_ble_eq_true rfl) (o_rsize87 γ) (fun v1 S1 I1 J1 hp => ?_)
    obtain ⟨rfl, rfl, rfl, rfl⟩ := hp
    show Rj _ _ _ _ _ _ (32, [some (.ref 95), some (.int 0)], [.int (X0 87 8)], (SS b false), X0, J, 0, 0)
    simp only [em]
    show Rj _ _ _ _ _ _ (32, [some (.ref 95), some (.int 0)], [.int (nI m)], (SS b false), X0, J, 0, 0)
    refine r_run okX5_readLine 1 (cs := []) (σ' := (34, [some (.ref 95), some (.int 0)], [.int 16, .int (nI m)], (SS b false), X0, J, 0, 0)) rfl trivial ?_
    refine r_icmp okX5_readLine rfl (fun (h34 : (nI m) < (16 : Int32)) => ?_) (fun (h34 : ¬ (nI m) < (16 : Int32)) => ?_)
    · rw [m16] at h34
      exact absurd h34 (by decide)
    · refine r_run okX5_readLine 2 (cs := []) (σ' := (39, [some (.ref 95), some (.int 0)], [.int 3, .ref 95], (SS b false), X0, J, 0, 0)) rfl trivial ?_
      refine r_callV okX5_readLine okX5_refuse [.int 3] [] 95 rfl rfl rfl kkX5_refuse rfl rfl (by decide) rfl rfl rfl (by decide) ⟨Nat.le_refl _, Nat.le_refl _⟩ (Nat.le_of_ble_eq_true rfl) (b_ref87 γ hT hP 3) (fun v1 S1 I1 J1 hp => ?_)
      obtain ⟨rfl, rfl, ⟨fr1, fl1⟩, rfl⟩ := hp
      obtain ⟨Xr, eXr⟩ : ∃ z, z = I1 := ⟨_, rfl⟩
      subst eXr
      show Rj _ _ _ _ _ _ (42, [some (.ref 95), some (.int 0)], [.int 0], (SS b false), Xr, J, 0, 0)
      refine r_iret okX5_readLine rfl rfl (by decide +kernel) (Nat.le_refl _) (Nat.le_refl _) ?_
      exact ⟨rfl, rfl, .inl (3, i), by unfold RdL; rw [if_pos (by rw [h]; decide), if_pos m16], fX_L (f9_X fr1), rfl, fl1⟩
  · exact absurd h6 (by decide)
theorem rl_tok0_87 (γ : GE) {b : Bool} {J : AJ} {T : Nat → Int32} {n N i m : Nat} {l : Cd} {X0 : AI} (hT : Tkn T n N X0) (hP : PsO T n N X0 i) (hO : OuO X0 87 l) (hl : l.length ≤ i) (em : X0 87 8 = nI m) (h : kK T n i = 0) (hm : m < 16) : Ct γ mX5_readLine 21 0 0 [.ref 95] (SS b false) X0 J (fun r S' I' J' => (SS b false) = S' ∧ J = J' ∧ ∃ res, RdL T n m i res ∧ RsL T n N 87 m X0 l res r I') := by
  have hN := hT.1
  have hiN := hP.1
  have e7 : X0 95 7 = 0 := hP.2.2.1.trans h
  have hi : i < N := kK_lt hT hiN (by rw [h]; decide)
  refine ct_of okX5_readLine (L := [some (.ref 95), none]) (Nat.le_of_ble_eq_true rfl) rfl ?_
  refine r_run okX5_readLine 4 (cs := []) (σ' := (6, [some (.ref 95), some (.int (X0 95 7))], [.int (X0 95 7)], (SS b false), X0, J, 0, 0)) rfl trivial ?_
  simp only [e7]
  show Rj _ _ _ _ _ _ (6, [some (.ref 95), some (.int 0)], [.int 0], (SS b false), X0, J, 0, 0)
  refine r_ifc okX5_readLine rfl (fun (h6 : (0 : Int32) = (0 : Int32)) => ?_) (fun (h6 : ¬ (0 : Int32) = (0 : Int32)) => ?_)
  · refine r_run okX5_readLine 2 (cs := []) (σ' := (29, [some (.ref 95), some (.int 0)], [.ref 87], (SS b false), X0, J, 0, 0)) rfl trivial ?_
    refine r_callV okX5_readLine okX6_size [] [] 87 rfl rfl rfl kkX6_size rfl rfl (by decide) rfl rfl rfl (by decide) ⟨Nat.le_refl _, Nat.le_refl _⟩ (Nat.le_of_ble_eq_true rfl) (o_rsize87 γ) (fun v1 S1 I1 J1 hp => ?_)
    obtain ⟨rfl, rfl, rfl, rfl⟩ := hp
    show Rj _ _ _ _ _ _ (32, [some (.ref 95), some (.int 0)], [.int (X0 87 8)], (SS b false), X0, J, 0, 0)
    simp only [em]
    show Rj _ _ _ _ _ _ (32, [some (.ref 95), some (.int 0)], [.int (nI m)], (SS b false), X0, J, 0, 0)
    refine r_run okX5_readLine 1 (cs := []) (σ' := (34, [some (.ref 95), some (.int 0)], [.int 16, .int (nI m)], (SS b false), X0, J, 0, 0)) rfl trivial ?_
    refine r_icmp okX5_readLine rfl (fun (h34 : (nI m) < (16 : Int32)) => ?_) (fun (h34 : ¬ (nI m) < (16 : Int32)) => ?_)
    · refine r_run okX5_readLine 1 (cs := []) (σ' := (44, [some (.ref 95), some (.int 0)], [.ref 95], (SS b false), X0, J, 0, 0)) rfl trivial ?_
      refine r_callV okX5_readLine okX5_advance [] [] 95 rfl rfl rfl kkX5_advance rfl rfl (by decide) rfl rfl rfl (by decide) ⟨Nat.le_refl _, Nat.le_refl _⟩ (Nat.le_of_ble_eq_true rfl) (b_adv87 γ hT hP hi) (fun v1 S1 I1 J1 hp => ?_)
      obtain ⟨rfl, rfl, ⟨fa, pa⟩, rfl⟩ := hp
      obtain ⟨Xa, eXa⟩ : ∃ z, z = I1 := ⟨_, rfl⟩
      subst eXa
      have hTa : Tkn T n N Xa := Tkn_k (A := 87) (by decide) (f9_X fa) hT
      have hOa := OuO_9 (by decide) fa hO
      have ema : Xa 87 8 = nI m := (fa 87 8 rfl).trans em
      show Rj _ _ _ _ _ _ (47, [some (.ref 95), some (.int 0)], [], (SS b false), Xa, J, 0, 0)
      refine r_run okX5_readLine 3 (cs := []) (σ' := (52, [some (.ref 95), some (.int 0)], [.int 0, .ref 87], (SS b false), Xa, J, 0, 0)) rfl trivial ?_
      refine r_callV okX5_readLine okX6_openLine [.int 0] [] 87 rfl rfl rfl kkX6_openLine rfl rfl (by decide) rfl rfl rfl (by decide) ⟨Nat.le_refl _, Nat.le_refl _⟩ (Nat.le_of_ble_eq_true rfl) (c_open87 γ hOa hm ema 0) (fun v1 S1 I1 J1 hp => ?_)
      obtain ⟨rfl, rfl, ⟨fo, o3, o4, o8⟩, rfl⟩ := hp
      obtain ⟨Xo, eXo⟩ : ∃ z, z = I1 := ⟨_, rfl⟩
      subst eXo
      have hTo : Tkn T n N Xo := Tkn_N (A := 87) (by decide) fo hTa
      have hPo : PsO T n N Xo (i + 1) := PsO_N (A := 87) (by decide) fo pa
      have hOo := OuO_N fo hOa
      have hfo : fr (qL5 87 m) X0 Xo := fr_t (fX_L (f9_X fa)) (fN_L fo)
      show Rj _ _ _ _ _ _ (55, [some (.ref 95), some (.int 0)], [], (SS b false), Xo, J, 0, 0)
      refine r_run okX5_readLine 1 (cs := []) (σ' := (56, [some (.ref 95), some (.int 0)], [.int 0], (SS b false), Xo, J, 0, 0)) rfl trivial ?_
      refine r_ifc okX5_readLine rfl (fun (h56 : ¬ (0 : Int32) = (0 : Int32)) => ?_) (fun h560 => ?_)
      · exact absurd h56 (by decide)
      · have h56 : (0 : Int32) = (0 : Int32) := Classical.not_not.mp h560
        refine r_run okX5_readLine 1 (cs := []) (σ' := (60, [some (.ref 95), some (.int 0)], [.ref 95], (SS b false), Xo, J, 0, 0)) rfl trivial ?_
        refine r_callV okX5_readLine okX5_readSum [] [] 95 rfl rfl rfl kkX5_readSum rfl rfl (by decide) rfl rfl rfl (by decide) ⟨Nat.le_refl _, Nat.le_refl _⟩ (Nat.le_of_ble_eq_true rfl) (b_sum87 γ hTo hPo hOo (by omega)) (fun v1 S1 I1 J1 hp => ?_)
        obtain ⟨rfl, rfl, res, hc, hfr, hr⟩ := hp
        obtain ⟨Xu, eXu⟩ : ∃ z, z = I1 := ⟨_, rfl⟩
        subst eXu
        have hS := hc
        have hc : LnE T n 0 (i + 1) res := by unfold LnE; rw [if_pos rfl]; exact hc
        cases res with
        | inl e =>
          obtain ⟨rfl, gF, gE⟩ := hr
          show Rj _ _ _ _ _ _ (63, [some (.ref 95), some (.int 0)], [.int 0], (SS b false), Xu, J, 0, 0)
          refine r_ifc okX5_readLine rfl (fun (h63 : ¬ (0 : Int32) = (0 : Int32)) => ?_) (fun h630 => ?_)
          · exact absurd h63 (by decide)
          · have h63 : (0 : Int32) = (0 : Int32) := Classical.not_not.mp h630
            refine r_run okX5_readLine 1 (cs := []) (σ' := (67, [some (.ref 95), some (.int 0)], [.int 0], (SS b false), Xu, J, 0, 0)) rfl trivial ?_
            refine r_iret okX5_readLine rfl rfl (by decide +kernel) (Nat.le_refl _) (Nat.le_refl _) ?_
            exact ⟨rfl, rfl, .inl e, by unfold RdL; rw [if_pos (by rw [h]; decide), if_neg (by omega), h]; exact ⟨_, hc, Or.inl ⟨e, rfl, rfl⟩⟩, fr_t hfo (fX_L hfr), rfl, gE⟩
        | inr u =>
          obtain ⟨rfl, gP, gO⟩ := hr
          have hq1 := Sm_len hS
          have hq3 := len_flt u.1
          show Rj _ _ _ _ _ _ (63, [some (.ref 95), some (.int 0)], [.int 1], (SS b false), Xu, J, 0, 0)
          refine r_ifc okX5_readLine rfl (fun (h63_1 : ¬ (1 : Int32) = (0 : Int32)) => ?_) (fun h63_10 => ?_)
          · exact rl_tail87 γ (c1 := u.1) 0 hm (Tkn_k (A := 87) (by decide) hfr hTo) gP gO (by simp only [List.length_append, List.length_cons, List.length_nil] at *; omega) ((hfr 87 8 rfl).trans o8) ((hfr 90 m rfl).trans o3) ((hfr 91 m rfl).trans o4) (fr_t hfo (fX_L hfr)) (fun res hr => by unfold RdL; rw [if_pos (by rw [h]; decide), if_neg (by omega), h]; exact ⟨_, hc, Or.inr ⟨u, rfl, hr⟩⟩)
          · have h63_1 : (1 : Int32) = (0 : Int32) := Classical.not_not.mp h63_10
            exact absurd h63_1 (by decide)
    · exact absurd (nI_lt (a := m) (b := 16) hm (by decide)) h34
  · exact absurd h6 (by decide)
theorem rl_full1_87 (γ : GE) {b : Bool} {J : AJ} {T : Nat → Int32} {n N i m : Nat} {l : Cd} {X0 : AI} (hT : Tkn T n N X0) (hP : PsO T n N X0 i) (hO : OuO X0 87 l) (hl : l.length ≤ i) (em : X0 87 8 = nI m) (h : kK T n i = 1) (m16 : m = 16) : Ct γ mX5_readLine 21 0 0 [.ref 95] (SS b false) X0 J (fun r S' I' J' => (SS b false) = S' ∧ J = J' ∧ ∃ res, RdL T n m i res ∧ RsL T n N 87 m X0 l res r I') := by
  have hN := hT.1
  have hiN := hP.1
  have e7 : X0 95 7 = 1 := hP.2.2.1.trans h
  refine ct_of okX5_readLine (L := [some (.ref 95), none]) (Nat.le_of_ble_eq_true rfl) rfl ?_
  refine r_run okX5_readLine 4 (cs := []) (σ' := (6, [some (.ref 95), some (.int (X0 95 7))], [.int (X0 95 7)], (SS b false), X0, J, 0, 0)) rfl trivial ?_
  simp only [e7]
  show Rj _ _ _ _ _ _ (6, [some (.ref 95), some (.int 1)], [.int 1], (SS b false), X0, J, 0, 0)
  refine r_ifc okX5_readLine rfl (fun (h6 : (1 : Int32) = (0 : Int32)) => ?_) (fun (h6 : ¬ (1 : Int32) = (0 : Int32)) => ?_)
  · exact absurd h6 (by decide)
  · refine r_run okX5_readLine 2 (cs := []) (σ' := (11, [some (.ref 95), some (.int 1)], [.int 1, .int 1], (SS b false), X0, J, 0, 0)) rfl trivial ?_
    refine r_icmp okX5_readLine rfl (fun (h11 : (1 : Int32) = (1 : Int32)) => ?_) (fun (h11 : ¬ (1 : Int32) = (1 : Int32)) => ?_)
    · refine r_run okX5_readLine 2 (cs := []) (σ' := (29, [some (.ref 95), some (.int 1)], [.ref 87], (SS b false), X0, J, 0, 0)) rfl trivial ?_
      refine r_callV okX5_readLine okX6_size [] [] 87 rfl rfl rfl kkX6_size rfl rfl (by decide) rfl rfl rfl (by decide) ⟨Nat.le_refl _, Nat.le_refl _⟩ (Nat.le_of_ble_eq_true rfl) (o_rsize87 γ) (fun v1 S1 I1 J1 hp => ?_)
      obtain ⟨rfl, rfl, rfl, rfl⟩ := hp
      show Rj _ _ _ _ _ _ (32, [some (.ref 95), some (.int 1)], [.int (X0 87 8)], (SS b false), X0, J, 0, 0)
      simp only [em]
      show Rj _ _ _ _ _ _ (32, [some (.ref 95), some (.int 1)], [.int (nI m)], (SS b false), X0, J, 0, 0)
      refine r_run okX5_readLine 1 (cs := []) (σ' := (34, [some (.ref 95), some (.int 1)], [.int 16, .int (nI m)], (SS b false), X0, J, 0, 0)) rfl trivial ?_
      refine r_icmp okX5_readLine rfl (fun (h34 : (nI m) < (16 : Int32)) => ?_) (fun (h34 : ¬ (nI m) < (16 : Int32)) => ?_)
      · rw [m16] at h34
        exact absurd h34 (by decide)
      · refine r_run okX5_readLine 2 (cs := []) (σ' := (39, [some (.ref 95), some (.int 1)], [.int 3, .ref 95], (SS b false), X0, J, 0, 0)) rfl trivial ?_
        refine r_callV okX5_readLine okX5_refuse [.int 3] [] 95 rfl rfl rfl kkX5_refuse rfl rfl (by decide) rfl rfl rfl (by decide) ⟨Nat.le_refl _, Nat.le_refl _⟩ (Nat.le_of_ble_eq_true rfl) (b_ref87 γ hT hP 3) (fun v1 S1 I1 J1 hp => ?_)
        obtain ⟨rfl, rfl, ⟨fr1, fl1⟩, rfl⟩ := hp
        obtain ⟨Xr, eXr⟩ : ∃ z, z = I1 := ⟨_, rfl⟩
        subst eXr
        show Rj _ _ _ _ _ _ (42, [some (.ref 95), some (.int 1)], [.int 0], (SS b false), Xr, J, 0, 0)
        refine r_iret okX5_readLine rfl rfl (by decide +kernel) (Nat.le_refl _) (Nat.le_refl _) ?_
        exact ⟨rfl, rfl, .inl (3, i), by unfold RdL; rw [if_pos (by rw [h]; decide), if_pos m16], fX_L (f9_X fr1), rfl, fl1⟩
    · exact absurd h11 (by decide)
theorem rl_tok1_87 (γ : GE) {b : Bool} {J : AJ} {T : Nat → Int32} {n N i m : Nat} {l : Cd} {X0 : AI} (hT : Tkn T n N X0) (hP : PsO T n N X0 i) (hO : OuO X0 87 l) (hl : l.length ≤ i) (em : X0 87 8 = nI m) (h : kK T n i = 1) (hm : m < 16) : Ct γ mX5_readLine 21 0 0 [.ref 95] (SS b false) X0 J (fun r S' I' J' => (SS b false) = S' ∧ J = J' ∧ ∃ res, RdL T n m i res ∧ RsL T n N 87 m X0 l res r I') := by
  have hN := hT.1
  have hiN := hP.1
  have e7 : X0 95 7 = 1 := hP.2.2.1.trans h
  have hi : i < N := kK_lt hT hiN (by rw [h]; decide)
  refine ct_of okX5_readLine (L := [some (.ref 95), none]) (Nat.le_of_ble_eq_true rfl) rfl ?_
  refine r_run okX5_readLine 4 (cs := []) (σ' := (6, [some (.ref 95), some (.int (X0 95 7))], [.int (X0 95 7)], (SS b false), X0, J, 0, 0)) rfl trivial ?_
  simp only [e7]
  show Rj _ _ _ _ _ _ (6, [some (.ref 95), some (.int 1)], [.int 1], (SS b false), X0, J, 0, 0)
  refine r_ifc okX5_readLine rfl (fun (h6 : (1 : Int32) = (0 : Int32)) => ?_) (fun (h6 : ¬ (1 : Int32) = (0 : Int32)) => ?_)
  · exact absurd h6 (by decide)
  · refine r_run okX5_readLine 2 (cs := []) (σ' := (11, [some (.ref 95), some (.int 1)], [.int 1, .int 1], (SS b false), X0, J, 0, 0)) rfl trivial ?_
    refine r_icmp okX5_readLine rfl (fun (h11 : (1 : Int32) = (1 : Int32)) => ?_) (fun (h11 : ¬ (1 : Int32) = (1 : Int32)) => ?_)
    · refine r_run okX5_readLine 2 (cs := []) (σ' := (29, [some (.ref 95), some (.int 1)], [.ref 87], (SS b false), X0, J, 0, 0)) rfl trivial ?_
      refine r_callV okX5_readLine okX6_size [] [] 87 rfl rfl rfl kkX6_size rfl rfl (by decide) rfl rfl rfl (by decide) ⟨Nat.le_refl _, Nat.le_refl _⟩ (Nat.le_of_ble_eq_true rfl) (o_rsize87 γ) (fun v1 S1 I1 J1 hp => ?_)
      obtain ⟨rfl, rfl, rfl, rfl⟩ := hp
      show Rj _ _ _ _ _ _ (32, [some (.ref 95), some (.int 1)], [.int (X0 87 8)], (SS b false), X0, J, 0, 0)
      simp only [em]
      show Rj _ _ _ _ _ _ (32, [some (.ref 95), some (.int 1)], [.int (nI m)], (SS b false), X0, J, 0, 0)
      refine r_run okX5_readLine 1 (cs := []) (σ' := (34, [some (.ref 95), some (.int 1)], [.int 16, .int (nI m)], (SS b false), X0, J, 0, 0)) rfl trivial ?_
      refine r_icmp okX5_readLine rfl (fun (h34 : (nI m) < (16 : Int32)) => ?_) (fun (h34 : ¬ (nI m) < (16 : Int32)) => ?_)
      · refine r_run okX5_readLine 1 (cs := []) (σ' := (44, [some (.ref 95), some (.int 1)], [.ref 95], (SS b false), X0, J, 0, 0)) rfl trivial ?_
        refine r_callV okX5_readLine okX5_advance [] [] 95 rfl rfl rfl kkX5_advance rfl rfl (by decide) rfl rfl rfl (by decide) ⟨Nat.le_refl _, Nat.le_refl _⟩ (Nat.le_of_ble_eq_true rfl) (b_adv87 γ hT hP hi) (fun v1 S1 I1 J1 hp => ?_)
        obtain ⟨rfl, rfl, ⟨fa, pa⟩, rfl⟩ := hp
        obtain ⟨Xa, eXa⟩ : ∃ z, z = I1 := ⟨_, rfl⟩
        subst eXa
        have hTa : Tkn T n N Xa := Tkn_k (A := 87) (by decide) (f9_X fa) hT
        have hOa := OuO_9 (by decide) fa hO
        have ema : Xa 87 8 = nI m := (fa 87 8 rfl).trans em
        show Rj _ _ _ _ _ _ (47, [some (.ref 95), some (.int 1)], [], (SS b false), Xa, J, 0, 0)
        refine r_run okX5_readLine 3 (cs := []) (σ' := (52, [some (.ref 95), some (.int 1)], [.int 1, .ref 87], (SS b false), Xa, J, 0, 0)) rfl trivial ?_
        refine r_callV okX5_readLine okX6_openLine [.int 1] [] 87 rfl rfl rfl kkX6_openLine rfl rfl (by decide) rfl rfl rfl (by decide) ⟨Nat.le_refl _, Nat.le_refl _⟩ (Nat.le_of_ble_eq_true rfl) (c_open87 γ hOa hm ema 1) (fun v1 S1 I1 J1 hp => ?_)
        obtain ⟨rfl, rfl, ⟨fo, o3, o4, o8⟩, rfl⟩ := hp
        obtain ⟨Xo, eXo⟩ : ∃ z, z = I1 := ⟨_, rfl⟩
        subst eXo
        have hTo : Tkn T n N Xo := Tkn_N (A := 87) (by decide) fo hTa
        have hPo : PsO T n N Xo (i + 1) := PsO_N (A := 87) (by decide) fo pa
        have hOo := OuO_N fo hOa
        have hfo : fr (qL5 87 m) X0 Xo := fr_t (fX_L (f9_X fa)) (fN_L fo)
        show Rj _ _ _ _ _ _ (55, [some (.ref 95), some (.int 1)], [], (SS b false), Xo, J, 0, 0)
        refine r_run okX5_readLine 1 (cs := []) (σ' := (56, [some (.ref 95), some (.int 1)], [.int 1], (SS b false), Xo, J, 0, 0)) rfl trivial ?_
        refine r_ifc okX5_readLine rfl (fun (h56 : ¬ (1 : Int32) = (0 : Int32)) => ?_) (fun h560 => ?_)
        · exact rl_tail87 γ (c1 := []) 1 hm hTo hPo (by rw [app_n]; exact hOo) (by rw [app_n]; omega) o8 o3 o4 hfo (fun res hr => by unfold RdL; rw [if_pos (by rw [h]; decide), if_neg (by omega), h]; exact ⟨.inr ([], i + 1), by unfold LnE; rw [if_neg (by decide)], Or.inr ⟨_, rfl, hr⟩⟩)
        · have h56 : (1 : Int32) = (0 : Int32) := Classical.not_not.mp h560
          exact absurd h56 (by decide)
      · exact absurd (nI_lt (a := m) (b := 16) hm (by decide)) h34
    · exact absurd h11 (by decide)
theorem rl_full2_87 (γ : GE) {b : Bool} {J : AJ} {T : Nat → Int32} {n N i m : Nat} {l : Cd} {X0 : AI} (hT : Tkn T n N X0) (hP : PsO T n N X0 i) (hO : OuO X0 87 l) (hl : l.length ≤ i) (em : X0 87 8 = nI m) (h : kK T n i = 2) (m16 : m = 16) : Ct γ mX5_readLine 21 0 0 [.ref 95] (SS b false) X0 J (fun r S' I' J' => (SS b false) = S' ∧ J = J' ∧ ∃ res, RdL T n m i res ∧ RsL T n N 87 m X0 l res r I') := by
  have hN := hT.1
  have hiN := hP.1
  have e7 : X0 95 7 = 2 := hP.2.2.1.trans h
  refine ct_of okX5_readLine (L := [some (.ref 95), none]) (Nat.le_of_ble_eq_true rfl) rfl ?_
  refine r_run okX5_readLine 4 (cs := []) (σ' := (6, [some (.ref 95), some (.int (X0 95 7))], [.int (X0 95 7)], (SS b false), X0, J, 0, 0)) rfl trivial ?_
  simp only [e7]
  show Rj _ _ _ _ _ _ (6, [some (.ref 95), some (.int 2)], [.int 2], (SS b false), X0, J, 0, 0)
  refine r_ifc okX5_readLine rfl (fun (h6 : (2 : Int32) = (0 : Int32)) => ?_) (fun (h6 : ¬ (2 : Int32) = (0 : Int32)) => ?_)
  · exact absurd h6 (by decide)
  · refine r_run okX5_readLine 2 (cs := []) (σ' := (11, [some (.ref 95), some (.int 2)], [.int 1, .int 2], (SS b false), X0, J, 0, 0)) rfl trivial ?_
    refine r_icmp okX5_readLine rfl (fun (h11 : (2 : Int32) = (1 : Int32)) => ?_) (fun (h11 : ¬ (2 : Int32) = (1 : Int32)) => ?_)
    · exact absurd h11 (by decide)
    · refine r_run okX5_readLine 2 (cs := []) (σ' := (16, [some (.ref 95), some (.int 2)], [.int 2, .int 2], (SS b false), X0, J, 0, 0)) rfl trivial ?_
      refine r_icmp okX5_readLine rfl (fun (h16 : (2 : Int32) = (2 : Int32)) => ?_) (fun (h16 : ¬ (2 : Int32) = (2 : Int32)) => ?_)
      · refine r_run okX5_readLine 2 (cs := []) (σ' := (29, [some (.ref 95), some (.int 2)], [.ref 87], (SS b false), X0, J, 0, 0)) rfl trivial ?_
        refine r_callV okX5_readLine okX6_size [] [] 87 rfl rfl rfl kkX6_size rfl rfl (by decide) rfl rfl rfl (by decide) ⟨Nat.le_refl _, Nat.le_refl _⟩ (Nat.le_of_ble_eq_true rfl) (o_rsize87 γ) (fun v1 S1 I1 J1 hp => ?_)
        obtain ⟨rfl, rfl, rfl, rfl⟩ := hp
        show Rj _ _ _ _ _ _ (32, [some (.ref 95), some (.int 2)], [.int (X0 87 8)], (SS b false), X0, J, 0, 0)
        simp only [em]
        show Rj _ _ _ _ _ _ (32, [some (.ref 95), some (.int 2)], [.int (nI m)], (SS b false), X0, J, 0, 0)
        refine r_run okX5_readLine 1 (cs := []) (σ' := (34, [some (.ref 95), some (.int 2)], [.int 16, .int (nI m)], (SS b false), X0, J, 0, 0)) rfl trivial ?_
        refine r_icmp okX5_readLine rfl (fun (h34 : (nI m) < (16 : Int32)) => ?_) (fun (h34 : ¬ (nI m) < (16 : Int32)) => ?_)
        · rw [m16] at h34
          exact absurd h34 (by decide)
        · refine r_run okX5_readLine 2 (cs := []) (σ' := (39, [some (.ref 95), some (.int 2)], [.int 3, .ref 95], (SS b false), X0, J, 0, 0)) rfl trivial ?_
          refine r_callV okX5_readLine okX5_refuse [.int 3] [] 95 rfl rfl rfl kkX5_refuse rfl rfl (by decide) rfl rfl rfl (by decide) ⟨Nat.le_refl _, Nat.le_refl _⟩ (Nat.le_of_ble_eq_true rfl) (b_ref87 γ hT hP 3) (fun v1 S1 I1 J1 hp => ?_)
          obtain ⟨rfl, rfl, ⟨fr1, fl1⟩, rfl⟩ := hp
          obtain ⟨Xr, eXr⟩ : ∃ z, z = I1 := ⟨_, rfl⟩
          subst eXr
          show Rj _ _ _ _ _ _ (42, [some (.ref 95), some (.int 2)], [.int 0], (SS b false), Xr, J, 0, 0)
          refine r_iret okX5_readLine rfl rfl (by decide +kernel) (Nat.le_refl _) (Nat.le_refl _) ?_
          exact ⟨rfl, rfl, .inl (3, i), by unfold RdL; rw [if_pos (by rw [h]; decide), if_pos m16], fX_L (f9_X fr1), rfl, fl1⟩
      · exact absurd h16 (by decide)
theorem rl_tok2_87 (γ : GE) {b : Bool} {J : AJ} {T : Nat → Int32} {n N i m : Nat} {l : Cd} {X0 : AI} (hT : Tkn T n N X0) (hP : PsO T n N X0 i) (hO : OuO X0 87 l) (hl : l.length ≤ i) (em : X0 87 8 = nI m) (h : kK T n i = 2) (hm : m < 16) : Ct γ mX5_readLine 21 0 0 [.ref 95] (SS b false) X0 J (fun r S' I' J' => (SS b false) = S' ∧ J = J' ∧ ∃ res, RdL T n m i res ∧ RsL T n N 87 m X0 l res r I') := by
  have hN := hT.1
  have hiN := hP.1
  have e7 : X0 95 7 = 2 := hP.2.2.1.trans h
  have hi : i < N := kK_lt hT hiN (by rw [h]; decide)
  refine ct_of okX5_readLine (L := [some (.ref 95), none]) (Nat.le_of_ble_eq_true rfl) rfl ?_
  refine r_run okX5_readLine 4 (cs := []) (σ' := (6, [some (.ref 95), some (.int (X0 95 7))], [.int (X0 95 7)], (SS b false), X0, J, 0, 0)) rfl trivial ?_
  simp only [e7]
  show Rj _ _ _ _ _ _ (6, [some (.ref 95), some (.int 2)], [.int 2], (SS b false), X0, J, 0, 0)
  refine r_ifc okX5_readLine rfl (fun (h6 : (2 : Int32) = (0 : Int32)) => ?_) (fun (h6 : ¬ (2 : Int32) = (0 : Int32)) => ?_)
  · exact absurd h6 (by decide)
  · refine r_run okX5_readLine 2 (cs := []) (σ' := (11, [some (.ref 95), some (.int 2)], [.int 1, .int 2], (SS b false), X0, J, 0, 0)) rfl trivial ?_
    refine r_icmp okX5_readLine rfl (fun (h11 : (2 : Int32) = (1 : Int32)) => ?_) (fun (h11 : ¬ (2 : Int32) = (1 : Int32)) => ?_)
    · exact absurd h11 (by decide)
    · refine r_run okX5_readLine 2 (cs := []) (σ' := (16, [some (.ref 95), some (.int 2)], [.int 2, .int 2], (SS b false), X0, J, 0, 0)) rfl trivial ?_
      refine r_icmp okX5_readLine rfl (fun (h16 : (2 : Int32) = (2 : Int32)) => ?_) (fun (h16 : ¬ (2 : Int32) = (2 : Int32)) => ?_)
      · refine r_run okX5_readLine 2 (cs := []) (σ' := (29, [some (.ref 95), some (.int 2)], [.ref 87], (SS b false), X0, J, 0, 0)) rfl trivial ?_
        refine r_callV okX5_readLine okX6_size [] [] 87 rfl rfl rfl kkX6_size rfl rfl (by decide) rfl rfl rfl (by decide) ⟨Nat.le_refl _, Nat.le_refl _⟩ (Nat.le_of_ble_eq_true rfl) (o_rsize87 γ) (fun v1 S1 I1 J1 hp => ?_)
        obtain ⟨rfl, rfl, rfl, rfl⟩ := hp
        show Rj _ _ _ _ _ _ (32, [some (.ref 95), some (.int 2)], [.int (X0 87 8)], (SS b false), X0, J, 0, 0)
        simp only [em]
        show Rj _ _ _ _ _ _ (32, [some (.ref 95), some (.int 2)], [.int (nI m)], (SS b false), X0, J, 0, 0)
        refine r_run okX5_readLine 1 (cs := []) (σ' := (34, [some (.ref 95), some (.int 2)], [.int 16, .int (nI m)], (SS b false), X0, J, 0, 0)) rfl trivial ?_
        refine r_icmp okX5_readLine rfl (fun (h34 : (nI m) < (16 : Int32)) => ?_) (fun (h34 : ¬ (nI m) < (16 : Int32)) => ?_)
        · refine r_run okX5_readLine 1 (cs := []) (σ' := (44, [some (.ref 95), some (.int 2)], [.ref 95], (SS b false), X0, J, 0, 0)) rfl trivial ?_
          refine r_callV okX5_readLine okX5_advance [] [] 95 rfl rfl rfl kkX5_advance rfl rfl (by decide) rfl rfl rfl (by decide) ⟨Nat.le_refl _, Nat.le_refl _⟩ (Nat.le_of_ble_eq_true rfl) (b_adv87 γ hT hP hi) (fun v1 S1 I1 J1 hp => ?_)
          obtain ⟨rfl, rfl, ⟨fa, pa⟩, rfl⟩ := hp
          obtain ⟨Xa, eXa⟩ : ∃ z, z = I1 := ⟨_, rfl⟩
          subst eXa
          have hTa : Tkn T n N Xa := Tkn_k (A := 87) (by decide) (f9_X fa) hT
          have hOa := OuO_9 (by decide) fa hO
          have ema : Xa 87 8 = nI m := (fa 87 8 rfl).trans em
          show Rj _ _ _ _ _ _ (47, [some (.ref 95), some (.int 2)], [], (SS b false), Xa, J, 0, 0)
          refine r_run okX5_readLine 3 (cs := []) (σ' := (52, [some (.ref 95), some (.int 2)], [.int 2, .ref 87], (SS b false), Xa, J, 0, 0)) rfl trivial ?_
          refine r_callV okX5_readLine okX6_openLine [.int 2] [] 87 rfl rfl rfl kkX6_openLine rfl rfl (by decide) rfl rfl rfl (by decide) ⟨Nat.le_refl _, Nat.le_refl _⟩ (Nat.le_of_ble_eq_true rfl) (c_open87 γ hOa hm ema 2) (fun v1 S1 I1 J1 hp => ?_)
          obtain ⟨rfl, rfl, ⟨fo, o3, o4, o8⟩, rfl⟩ := hp
          obtain ⟨Xo, eXo⟩ : ∃ z, z = I1 := ⟨_, rfl⟩
          subst eXo
          have hTo : Tkn T n N Xo := Tkn_N (A := 87) (by decide) fo hTa
          have hPo : PsO T n N Xo (i + 1) := PsO_N (A := 87) (by decide) fo pa
          have hOo := OuO_N fo hOa
          have hfo : fr (qL5 87 m) X0 Xo := fr_t (fX_L (f9_X fa)) (fN_L fo)
          show Rj _ _ _ _ _ _ (55, [some (.ref 95), some (.int 2)], [], (SS b false), Xo, J, 0, 0)
          refine r_run okX5_readLine 1 (cs := []) (σ' := (56, [some (.ref 95), some (.int 2)], [.int 2], (SS b false), Xo, J, 0, 0)) rfl trivial ?_
          refine r_ifc okX5_readLine rfl (fun (h56 : ¬ (2 : Int32) = (0 : Int32)) => ?_) (fun h560 => ?_)
          · exact rl_tail87 γ (c1 := []) 2 hm hTo hPo (by rw [app_n]; exact hOo) (by rw [app_n]; omega) o8 o3 o4 hfo (fun res hr => by unfold RdL; rw [if_pos (by rw [h]; decide), if_neg (by omega), h]; exact ⟨.inr ([], i + 1), by unfold LnE; rw [if_neg (by decide)], Or.inr ⟨_, rfl, hr⟩⟩)
          · have h56 : (2 : Int32) = (0 : Int32) := Classical.not_not.mp h560
            exact absurd h56 (by decide)
        · exact absurd (nI_lt (a := m) (b := 16) hm (by decide)) h34
      · exact absurd h16 (by decide)
theorem b_line87 (γ : GE) {b : Bool} {J : AJ} {T : Nat → Int32} {n N i m : Nat} {l : Cd} {X0 : AI} (hT : Tkn T n N X0) (hP : PsO T n N X0 i) (hO : OuO X0 87 l) (hl : l.length ≤ i) (em : X0 87 8 = nI m) (hm : m ≤ 16) : Ct γ mX5_readLine 21 0 0 [.ref 95] (SS b false) X0 J (fun r S' I' J' => (SS b false) = S' ∧ J = J' ∧ ∃ res, RdL T n m i res ∧ RsL T n N 87 m X0 l res r I') := by
  by_cases k02 : inB (kK T n i) 0 2 = true
  · obtain ⟨z, hz, ez⟩ := inB_rg (n := 2) (by decide) k02
    by_cases h16 : m = 16
    · rcases (by omega : z = 0 ∨ z = 1 ∨ z = 2) with rfl | rfl | rfl
      · exact rl_full0_87 γ hT hP hO hl em ez h16
      · exact rl_full1_87 γ hT hP hO hl em ez h16
      · exact rl_full2_87 γ hT hP hO hl em ez h16
    · rcases (by omega : z = 0 ∨ z = 1 ∨ z = 2) with rfl | rfl | rfl
      · exact rl_tok0_87 γ hT hP hO hl em ez (by omega)
      · exact rl_tok1_87 γ hT hP hO hl em ez (by omega)
      · exact rl_tok2_87 γ hT hP hO hl em ez (by omega)
  · exact rl_no87 γ hT hP hO hl em k02
def qR87 (a b : Nat) : Bool := a == 95 || (a == 97 || (a == 98 || (a == 99 || (Nat.ble 87 a && Nat.ble a 93))))
theorem fT_R87 {X Y : AI} (h : fr qT X Y) : fr qR87 X Y := fr_m (fun a b z => by
  unfold qR87 at z; unfold qT; simp only [Bool.or_eq_false_iff] at z ⊢; exact ⟨by rw [z.1]; rfl, z.2.1, z.2.2.1, z.2.2.2.1⟩) h
theorem fL_R87 {m : Nat} {X Y : AI} (h : fr (qL5 87 m) X Y) : fr qR87 X Y := fr_m (fun a b z => by
  unfold qR87 at z; simp only [Bool.or_eq_false_iff, Bool.and_eq_false_iff] at z
  have hb : ¬ (87 ≤ a ∧ a ≤ 93) := fun y => by
    rcases z.2.2.2.2 with q | q
    · exact absurd (Nat.ble_eq_true_of_le y.1) (by rw [q]; decide)
    · exact absurd (Nat.ble_eq_true_of_le y.2) (by rw [q]; decide)
  unfold qL5 qX q95 qA qN
  rw [z.1, show (a == 87) = false from beq_eq_false_iff_ne.mpr (by omega), show (a == 87 + 1) = false from beq_eq_false_iff_ne.mpr (by omega), show (a == 87 + 2) = false from beq_eq_false_iff_ne.mpr (by omega), show (a == 87 + 3) = false from beq_eq_false_iff_ne.mpr (by omega), show (a == 87 + 4) = false from beq_eq_false_iff_ne.mpr (by omega), show (a == 87 + 5) = false from beq_eq_false_iff_ne.mpr (by omega), show (a == 87 + 6) = false from beq_eq_false_iff_ne.mpr (by omega)]; rfl) h
def RsR87 (T : Nat → Int32) (n : Nat) (X : AI) (res : RR) (r : Option Value) (X' : AI) : Prop := fr qR87 X X' ∧ X' 95 4 = 0 ∧ match res with
  | .inl e => some (Value.int 0) = r ∧ FlO T n X' e
  | .inr ls => some (Value.int 1) = r ∧ X' 95 8 = 0 ∧ X' 95 9 = -1 ∧ ls.length ≤ 16 ∧ X' 87 8 = nI ls.length ∧ ∀ k q, ls[k]? = some q → OLn X' 87 k q
theorem lp_rd87 (γ : GE) {b : Bool} {J : AJ} {T : Nat → Int32} {n N : Nat} {X0 : AI} : ∀ (j i : Nat) (acc : List Ln) (X : AI), N ≤ i + j → acc.length ≤ 16 → Tkn T n N X → PsO T n N X i → OuO X 87 (cdC acc) → (cdC acc).length ≤ i → X 87 8 = nI acc.length → LnO X 87 0 0 acc → fr qR87 X0 X → (∀ res, (∃ f, RdT T n f i acc res) → ∃ f, RdT T n f 0 [] res) → Rj γ mX5_read 22 0 0 (fun r S' I' J' => (SS b false) = S' ∧ J = J' ∧ ∃ res, (∃ f, RdT T n f 0 [] res) ∧ RsR87 T n X0 res r I') (45, [some (.ref 95), some (.ref 87), some (.int 1), some (.int (nI acc.length))], [], (SS b false), X, J, 0, 0) := by
  intro j
  induction j with
  | zero =>
    intro i acc X hj h16 hT hP hO hl em hL hf hd
    have hN := hT.1
    have hiN := hP.1
    have e7 := hP.2.2.1
    have k17 : kK T n i = 17 := by rw [show i = N by omega]; exact hT.2.1
    have e17 : X 95 7 = 17 := e7.trans k17
    refine r_run okX5_read 2 (cs := []) (σ' := (48, [some (.ref 95), some (.ref 87), some (.int 1), some (.int (nI acc.length))], [.int 16, .int (nI acc.length)], (SS b false), X, J, 0, 0)) rfl trivial ?_
    refine r_icmp okX5_read rfl (fun (h48 : (16 : Int32) < (nI acc.length)) => ?_) (fun (h48 : ¬ (16 : Int32) < (nI acc.length)) => ?_)
    · exact absurd h48 (nI_nlt (a := 16) (b := acc.length) (by omega) (by decide))
    · refine r_run okX5_read 1 (cs := []) (σ' := (52, [some (.ref 95), some (.ref 87), some (.int 1), some (.int (nI acc.length))], [.int 1], (SS b false), X, J, 0, 0)) rfl trivial ?_
      refine r_ifc okX5_read rfl (fun (h52 : (1 : Int32) = (0 : Int32)) => ?_) (fun (h52 : ¬ (1 : Int32) = (0 : Int32)) => ?_)
      · exact absurd h52 (by decide)
      · refine r_run okX5_read 3 (cs := []) (σ' := (61, [some (.ref 95), some (.ref 87), some (.int 1), some (.int (nI acc.length))], [.int 17, .int (X 95 7)], (SS b false), X, J, 0, 0)) rfl trivial ?_
        simp only [e17]
        show Rj _ _ _ _ _ _ (61, [some (.ref 95), some (.ref 87), some (.int 1), some (.int (nI acc.length))], [.int 17, .int 17], (SS b false), X, J, 0, 0)
        refine r_icmp okX5_read rfl (fun (h61 : (17 : Int32) = (17 : Int32)) => ?_) (fun (h61 : ¬ (17 : Int32) = (17 : Int32)) => ?_)
        · refine r_run okX5_read 4 (cs := []) (σ' := (81, [some (.ref 95), some (.ref 87), some (.int 1), some (.int (nI acc.length))], [.int 1], (SS b false), (upI X 95 4 0), J, 0, 0)) rfl trivial ?_
          refine r_iret okX5_read rfl rfl (by decide +kernel) (Nat.le_refl _) (Nat.le_refl _) ?_
          have hs : RdT T n 1 i acc (.inr acc) := by unfold RdT; rw [if_neg (by rw [k17]; decide), if_pos k17]
          refine ⟨rfl, rfl, .inr acc, hd _ ⟨1, hs⟩, fr_t hf (up_q rfl), upI_s, rfl, ?_, ?_, h16, ?_, fun k q hq => ?_⟩
          · rw [upI_n (by decide)]; exact hP.2.2.2.1
          · rw [upI_n (by decide)]; exact hP.2.2.2.2
          · rw [upI_ne (by decide)]; exact em
          · have z := LnO_rul (LnO_lt (Y := upI X 95 4 0) (fun a j h _ => by rw [upI_ne (by omega)]) hL) (cdT_k (upI_ne (by decide)) (upI_ne (by decide)) hO.2) (by omega) k q hq
            rw [Nat.zero_add] at z
            exact z
        · exact absurd h61 (by decide)
  | succ j ih =>
    intro i acc X hj h16 hT hP hO hl em hL hf hd
    have hN := hT.1
    have hiN := hP.1
    have e7 := hP.2.2.1
    by_cases k17 : kK T n i = 17
    · have e17 : X 95 7 = 17 := e7.trans k17
      refine r_run okX5_read 2 (cs := []) (σ' := (48, [some (.ref 95), some (.ref 87), some (.int 1), some (.int (nI acc.length))], [.int 16, .int (nI acc.length)], (SS b false), X, J, 0, 0)) rfl trivial ?_
      refine r_icmp okX5_read rfl (fun (h48 : (16 : Int32) < (nI acc.length)) => ?_) (fun (h48 : ¬ (16 : Int32) < (nI acc.length)) => ?_)
      · exact absurd h48 (nI_nlt (a := 16) (b := acc.length) (by omega) (by decide))
      · refine r_run okX5_read 1 (cs := []) (σ' := (52, [some (.ref 95), some (.ref 87), some (.int 1), some (.int (nI acc.length))], [.int 1], (SS b false), X, J, 0, 0)) rfl trivial ?_
        refine r_ifc okX5_read rfl (fun (h52 : (1 : Int32) = (0 : Int32)) => ?_) (fun (h52 : ¬ (1 : Int32) = (0 : Int32)) => ?_)
        · exact absurd h52 (by decide)
        · refine r_run okX5_read 3 (cs := []) (σ' := (61, [some (.ref 95), some (.ref 87), some (.int 1), some (.int (nI acc.length))], [.int 17, .int (X 95 7)], (SS b false), X, J, 0, 0)) rfl trivial ?_
          simp only [e17]
          show Rj _ _ _ _ _ _ (61, [some (.ref 95), some (.ref 87), some (.int 1), some (.int (nI acc.length))], [.int 17, .int 17], (SS b false), X, J, 0, 0)
          refine r_icmp okX5_read rfl (fun (h61 : (17 : Int32) = (17 : Int32)) => ?_) (fun (h61 : ¬ (17 : Int32) = (17 : Int32)) => ?_)
          · refine r_run okX5_read 4 (cs := []) (σ' := (81, [some (.ref 95), some (.ref 87), some (.int 1), some (.int (nI acc.length))], [.int 1], (SS b false), (upI X 95 4 0), J, 0, 0)) rfl trivial ?_
            refine r_iret okX5_read rfl rfl (by decide +kernel) (Nat.le_refl _) (Nat.le_refl _) ?_
            have hs : RdT T n 1 i acc (.inr acc) := by unfold RdT; rw [if_neg (by rw [k17]; decide), if_pos k17]
            refine ⟨rfl, rfl, .inr acc, hd _ ⟨1, hs⟩, fr_t hf (up_q rfl), upI_s, rfl, ?_, ?_, h16, ?_, fun k q hq => ?_⟩
            · rw [upI_n (by decide)]; exact hP.2.2.2.1
            · rw [upI_n (by decide)]; exact hP.2.2.2.2
            · rw [upI_ne (by decide)]; exact em
            · have z := LnO_rul (LnO_lt (Y := upI X 95 4 0) (fun a j h _ => by rw [upI_ne (by omega)]) hL) (cdT_k (upI_ne (by decide)) (upI_ne (by decide)) hO.2) (by omega) k q hq
              rw [Nat.zero_add] at z
              exact z
          · exact absurd h61 (by decide)
    refine r_run okX5_read 2 (cs := []) (σ' := (48, [some (.ref 95), some (.ref 87), some (.int 1), some (.int (nI acc.length))], [.int 16, .int (nI acc.length)], (SS b false), X, J, 0, 0)) rfl trivial ?_
    refine r_icmp okX5_read rfl (fun (h48 : (16 : Int32) < (nI acc.length)) => ?_) (fun (h48 : ¬ (16 : Int32) < (nI acc.length)) => ?_)
    · exact absurd h48 (nI_nlt (a := 16) (b := acc.length) (by omega) (by decide))
    · refine r_run okX5_read 1 (cs := []) (σ' := (52, [some (.ref 95), some (.ref 87), some (.int 1), some (.int (nI acc.length))], [.int 1], (SS b false), X, J, 0, 0)) rfl trivial ?_
      refine r_ifc okX5_read rfl (fun (h52 : (1 : Int32) = (0 : Int32)) => ?_) (fun (h52 : ¬ (1 : Int32) = (0 : Int32)) => ?_)
      · exact absurd h52 (by decide)
      · refine r_run okX5_read 3 (cs := []) (σ' := (61, [some (.ref 95), some (.ref 87), some (.int 1), some (.int (nI acc.length))], [.int 17, .int (X 95 7)], (SS b false), X, J, 0, 0)) rfl trivial ?_
        simp only [e7]
        show Rj _ _ _ _ _ _ (61, [some (.ref 95), some (.ref 87), some (.int 1), some (.int (nI acc.length))], [.int 17, .int (kK T n i)], (SS b false), X, J, 0, 0)
        refine r_icmp okX5_read rfl (fun (h61 : (kK T n i) = (17 : Int32)) => ?_) (fun (h61 : ¬ (kK T n i) = (17 : Int32)) => ?_)
        · exact absurd h61 k17
        · refine r_run okX5_read 1 (cs := []) (σ' := (65, [some (.ref 95), some (.ref 87), some (.int 1), some (.int (nI acc.length))], [.ref 95], (SS b false), X, J, 0, 0)) rfl trivial ?_
          refine r_callV okX5_read okX5_readLine [] [] 95 rfl rfl rfl kkX5_readLine rfl rfl (by decide) rfl rfl rfl (by decide) ⟨Nat.le_refl _, Nat.le_refl _⟩ (Nat.le_of_ble_eq_true rfl) (b_line87 γ hT hP hO hl em h16) (fun v1 S1 I1 J1 hp => ?_)
          obtain ⟨rfl, rfl, res, hc, hfr, hr⟩ := hp
          obtain ⟨Xu, eXu⟩ : ∃ z, z = I1 := ⟨_, rfl⟩
          subst eXu
          cases res with
          | inl e =>
            obtain ⟨rfl, gE⟩ := hr
            show Rj _ _ _ _ _ _ (68, [some (.ref 95), some (.ref 87), some (.int 1), some (.int (nI acc.length))], [.int 0], (SS b false), Xu, J, 0, 0)
            refine r_run okX5_read 5 (cs := []) (σ' := (48, [some (.ref 95), some (.ref 87), some (.int 0), some (.int ((nI acc.length) + 1))], [.int 16, .int ((nI acc.length) + 1)], (SS b false), Xu, J, 0, 0)) rfl trivial ?_
            refine r_icmp okX5_read rfl (fun (h48_1 : (16 : Int32) < ((nI acc.length) + 1)) => ?_) (fun (h48_1 : ¬ (16 : Int32) < ((nI acc.length) + 1)) => ?_)
            · refine r_run okX5_read 4 (cs := []) (σ' := (81, [some (.ref 95), some (.ref 87), some (.int 0), some (.int ((nI acc.length) + 1))], [.int 0], (SS b false), (upI Xu 95 4 0), J, 0, 0)) rfl trivial ?_
              refine r_iret okX5_read rfl rfl (by decide +kernel) (Nat.le_refl _) (Nat.le_refl _) ?_
              exact ⟨rfl, rfl, .inl e, hd _ ⟨1, RdL_f hc k17⟩, fr_t (fr_t hf (fL_R87 hfr)) (up_q rfl), upI_s, rfl, by unfold FlO; rw [upI_n (by decide), upI_n (by decide)]; exact gE⟩
            · refine r_run okX5_read 1 (cs := []) (σ' := (52, [some (.ref 95), some (.ref 87), some (.int 0), some (.int ((nI acc.length) + 1))], [.int 0], (SS b false), Xu, J, 0, 0)) rfl trivial ?_
              refine r_ifc okX5_read rfl (fun (h52_1 : (0 : Int32) = (0 : Int32)) => ?_) (fun (h52_1 : ¬ (0 : Int32) = (0 : Int32)) => ?_)
              · refine r_run okX5_read 4 (cs := []) (σ' := (81, [some (.ref 95), some (.ref 87), some (.int 0), some (.int ((nI acc.length) + 1))], [.int 0], (SS b false), (upI Xu 95 4 0), J, 0, 0)) rfl trivial ?_
                refine r_iret okX5_read rfl rfl (by decide +kernel) (Nat.le_refl _) (Nat.le_refl _) ?_
                exact ⟨rfl, rfl, .inl e, hd _ ⟨1, RdL_f hc k17⟩, fr_t (fr_t hf (fL_R87 hfr)) (up_q rfl), upI_s, rfl, by unfold FlO; rw [upI_n (by decide), upI_n (by decide)]; exact gE⟩
              · exact absurd h52_1 (by decide)
          | inr u =>
            obtain ⟨rfl, gP, gO, gl, g3, g4, g5, g6, g8⟩ := hr
            have hTu : Tkn T n N Xu := Tkn_L (A := 87) (by decide) hfr hT
            have hgt : i < u.2 := RdL_lt hc
            have hq2 := gP.1
            show Rj _ _ _ _ _ _ (68, [some (.ref 95), some (.ref 87), some (.int 1), some (.int (nI acc.length))], [.int 1], (SS b false), Xu, J, 0, 0)
            refine r_run okX5_read 3 (cs := []) (σ' := (45, [some (.ref 95), some (.ref 87), some (.int 1), some (.int ((nI acc.length) + 1))], [], (SS b false), Xu, J, 0, 0)) rfl trivial ?_
            rw [← nI_succ]
            have ne16 : ¬ acc.length = 16 := by
              have hc2 := hc
              unfold RdL at hc2
              split at hc2
              · split at hc2
                · cases hc2
                · assumption
              · cases hc2
            have el : (acc ++ [u.1]).length = acc.length + 1 := by simp
            rw [show nI (acc.length + 1) = nI (acc ++ [u.1]).length by rw [el]]
            refine ih u.2 (acc ++ [u.1]) Xu (by omega) (by omega) hTu gP (by rw [cdC_1]; exact gO) (by rw [cdC_1]; exact gl) (by rw [el]; exact g8) (LnO_ap (LnO_lt (fun a j h1 h2 => ?_) hL) ?_ ?_ ?_ ?_) (fr_t hf (fL_R87 hfr)) (fun res hr => ?_)
            · refine hfr a j ?_
              have hjm : (j == acc.length) = false := beq_eq_false_iff_ne.mpr (by omega)
              rcases h1 with rfl | rfl | rfl | rfl <;> (unfold qL5 qN qX q95 qA; rw [hjm]; rfl)
            · rw [Nat.zero_add]; exact g3
            · rw [Nat.zero_add, Nat.zero_add]; exact g4
            · rw [Nat.zero_add, Nat.zero_add]; rw [List.length_append] at g5; exact g5
            · rw [Nat.zero_add, Nat.zero_add]; rw [List.length_append, List.length_append] at g6; exact g6
            · obtain ⟨f, hg⟩ := hr; exact hd res ⟨f + 1, (RdL_s hc hg).1⟩
