/-! ===== the reference: reads, its lines ===== -/
theorem qP_ln {a b : Nat} (ha : a = 120 ∨ a = 121 ∨ a = 122 ∨ a = 123) : qP a b = false := by rcases ha with rfl | rfl | rfl | rfl <;> rfl
theorem q4_ln {a b : Nat} (ha : a = 120 ∨ a = 121 ∨ a = 122 ∨ a = 123) : q4 a b = false := by rcases ha with rfl | rfl | rfl | rfl <;> rfl
def RsR (T : Nat → Int32) (n : Nat) (X : AI) (res : RR) (r : Option Value) (X' : AI) : Prop := match res with
  | .inl e => some (Value.int (-1)) = r ∧ fr qR X X' ∧ X' 100 40 = e.1 ∧ X' 100 41 = nI (psN T n e.2)
  | .inr ls => some (Value.int (nI ls.length)) = r ∧ fr qR X X' ∧ LnAt X' 16 0 0 ls ∧ Out X' (cdO ls) ∧ ls.length ≤ 16 ∧ (cdO ls).length ≤ 800
theorem LnAt_s {Y Z : AI} {acc : List Ln} {a : Int32} {p q : Cd} (hL : LnAt Y 16 0 0 acc) (hf : fr (qM acc.length) Y Z) (z0 : Z 120 (16 + acc.length) = a) (z1 : Z 121 (16 + acc.length) = nI (cdO acc).length) (z2 : Z 122 (16 + acc.length) = nI (cdO acc ++ flt p).length) (z3 : Z 123 (16 + acc.length) = nI (cdO acc ++ flt p ++ flt q).length) : LnAt Z 16 0 0 (acc ++ [(a, p, q)]) := by
  refine LnAt_1 (LnAt_k (N := acc.length) (fun x k hx hk => hf x k (qM_lt hx (by omega))) (by omega) hL) ?_
  rw [Nat.zero_add, Nat.zero_add]
  rw [List.length_append] at z2
  rw [List.length_append, List.length_append] at z3
  exact ⟨z0, z1, z2, z3, trivial⟩
theorem ps_mono {T : Nat → Int32} {n i : Nat} {X : AI} (h : PSt T n X i) (hT : TpOK T n) : i ≤ 800 := by have h1 := h.2.2.2.1; have h2 := hT.1; omega
theorem in02 {k : Int32} (h : inB k 0 2 = true) : rg 16 k ∧ ¬ (2 : Int32) < k := by
  obtain ⟨z, hz, e⟩ := in_nat (n := 2) h rfl (by decide)
  exact ⟨⟨z, by omega, e⟩, Int32.not_lt.mpr (inB_t.mp h).2⟩
theorem nin02 {k : Int32} (h : ¬ inB k 0 2 = true) (hr : rg 16 k) : (2 : Int32) < k := by
  obtain ⟨z, hz, e⟩ := hr
  refine Int32.not_le.mp fun q => h (inB_t.mpr ⟨?_, q⟩)
  rw [e]; exact nI_le (a := 0) (by omega) (by omega)
theorem lp_rd (γ : GE) {b c : Bool} {X : AI} {J : AJ} {T : Nat → Int32} {n : Nat} (hT : TpOK T n) (res : RR) : ∀ (f i : Nat) (acc : List Ln) (Y : AI), RdT T n f i acc res → acc.length ≤ 16 → PSt T n Y i → Out Y (cdO acc) → (cdO acc).length ≤ i → Y 100 37 = 0 → LnAt Y 16 0 0 acc → fr qR X Y → Rj γ mX12_reads 8 0 0 (fun r S' I' J' => (SS b c) = S' ∧ J = J' ∧ RsR T n X res r I') (21, [some (.ref 100), some (.int (nI acc.length)), none], [], (SS b c), Y, J, 0, 0) := by
  intro f
  induction f with
  | zero => intro i acc Y hd; exact hd.elim
  | succ f ih =>
    intro i acc Y hd ha16 hP hO hl hop hL hf
    unfold RdT at hd
    have htr := toR_w2 hP.2.2.2.2.2.2
    have h8 := ps_mono hP hT
    by_cases ha : inB (kK T n i) 0 2 = true
    · rw [if_pos ha] at hd
      have ht : Y 100 26 = 2 := htr.1.mpr (in02 ha).1
      have hv : Y 100 27 = kK T n i := htr.2.1 ht
      by_cases h16 : acc.length = 16
      · rw [if_pos h16] at hd
        refine r_run okX12_reads 3 (cs := []) (σ' := (26, [some (.ref 100), some (.int (nI acc.length)), none], [.int 2, .int (Y 100 26)], (SS b c), Y, J, 0, 0)) rfl trivial ?_
        simp only [ht]
        show Rj _ _ _ _ _ _ (26, [some (.ref 100), some (.int (nI acc.length)), none], [.int 2, .int 2], (SS b c), Y, J, 0, 0)
        refine r_icmp okX12_reads rfl (fun (h26 : ¬ (2 : Int32) = (2 : Int32)) => ?_) (fun h260 => ?_)
        · exact absurd h26 (by decide)
        · have h26 : (2 : Int32) = (2 : Int32) := Classical.not_not.mp h260
          refine r_run okX12_reads 3 (cs := []) (σ' := (34, [some (.ref 100), some (.int (nI acc.length)), none], [.int 2, .int (Y 100 27)], (SS b c), Y, J, 0, 0)) rfl trivial ?_
          simp only [hv]
          show Rj _ _ _ _ _ _ (34, [some (.ref 100), some (.int (nI acc.length)), none], [.int 2, .int (kK T n i)], (SS b c), Y, J, 0, 0)
          refine r_icmp okX12_reads rfl (fun (h34 : (2 : Int32) < (kK T n i)) => ?_) (fun (h34 : ¬ (2 : Int32) < (kK T n i)) => ?_)
          · exact absurd h34 (in02 ha).2
          · refine r_run okX12_reads 2 (cs := []) (σ' := (40, [some (.ref 100), some (.int (nI acc.length)), none], [.int 16, .int (nI acc.length)], (SS b c), Y, J, 0, 0)) rfl trivial ?_
            refine r_icmp okX12_reads rfl (fun (h40 : ¬ (nI acc.length) = (16 : Int32)) => ?_) (fun h400 => ?_)
            · exact absurd (by rw [h16]; rfl) h40
            · have h40 : (nI acc.length) = (16 : Int32) := Classical.not_not.mp h400
              refine r_run okX12_reads 2 (cs := []) (σ' := (45, [some (.ref 100), some (.int (nI acc.length)), none], [.int 3, .ref 100], (SS b c), Y, J, 0, 0)) rfl trivial ?_
              refine r_callV okX12_reads okX12_fails [.int 3] [] 100 rfl rfl rfl kkX12_fails rfl rfl (by decide) rfl rfl rfl (by decide) ⟨Nat.le_refl _, Nat.le_refl _⟩ (Nat.le_of_ble_eq_true rfl) (c_fails γ 3) (fun v1 S1 I1 J1 hp => ?_)
              obtain ⟨rfl, rfl, ⟨X1, rfl, f1, e1, e2⟩, rfl⟩ := hp
              show Rj _ _ _ _ _ _ (48, [some (.ref 100), some (.int (nI acc.length)), none], [.int (-1)], (SS b c), X1, J, 0, 0)
              refine r_iret okX12_reads rfl rfl rfl (Nat.le_refl _) (Nat.le_refl _) ?_
              refine ⟨rfl, rfl, ?_⟩
              rw [hd]
              exact ⟨rfl, fr_t hf (fP_R (fF_P f1)), e1, e2.trans hP.2.2.2.2.2.1⟩
      · rw [if_neg h16] at hd
        obtain ⟨r1, hE, h5⟩ := hd
        have c16 : (nI (16 + acc.length)).toNatClampNeg = 16 + acc.length := nI_clamp (by omega)
        refine r_run okX12_reads 3 (cs := []) (σ' := (26, [some (.ref 100), some (.int (nI acc.length)), none], [.int 2, .int (Y 100 26)], (SS b c), Y, J, 0, 0)) rfl trivial ?_
        simp only [ht]
        show Rj _ _ _ _ _ _ (26, [some (.ref 100), some (.int (nI acc.length)), none], [.int 2, .int 2], (SS b c), Y, J, 0, 0)
        refine r_icmp okX12_reads rfl (fun (h26 : ¬ (2 : Int32) = (2 : Int32)) => ?_) (fun h260 => ?_)
        · exact absurd h26 (by decide)
        · have h26 : (2 : Int32) = (2 : Int32) := Classical.not_not.mp h260
          refine r_run okX12_reads 3 (cs := []) (σ' := (34, [some (.ref 100), some (.int (nI acc.length)), none], [.int 2, .int (Y 100 27)], (SS b c), Y, J, 0, 0)) rfl trivial ?_
          simp only [hv]
          show Rj _ _ _ _ _ _ (34, [some (.ref 100), some (.int (nI acc.length)), none], [.int 2, .int (kK T n i)], (SS b c), Y, J, 0, 0)
          refine r_icmp okX12_reads rfl (fun (h34 : (2 : Int32) < (kK T n i)) => ?_) (fun (h34 : ¬ (2 : Int32) < (kK T n i)) => ?_)
          · exact absurd h34 (in02 ha).2
          · refine r_run okX12_reads 2 (cs := []) (σ' := (40, [some (.ref 100), some (.int (nI acc.length)), none], [.int 16, .int (nI acc.length)], (SS b c), Y, J, 0, 0)) rfl trivial ?_
            refine r_icmp okX12_reads rfl (fun (h40 : ¬ (nI acc.length) = (16 : Int32)) => ?_) (fun h400 => ?_)
            · refine r_run okX12_reads 11 (cs := [vp_in (16 + (nI acc.length)) 32]) (σ' := (65, [some (.ref 100), some (.int (nI acc.length)), some (.int (Y 100 27))], [.ref 100], (SS b c), (upI Y 120 ((16 + (nI acc.length)).toNatClampNeg) (Y 100 27)), J, 0, 0)) rfl ⟨(by rw [i16]; exact vin (by omega) (by decide)), trivial⟩ ?_
              simp only [hv, i16, c16]
              show Rj _ _ _ _ _ _ (65, [some (.ref 100), some (.int (nI acc.length)), some (.int (kK T n i))], [.ref 100], (SS b c), (upI Y 120 (16 + acc.length) (kK T n i)), J, 0, 0)
              refine r_callV okX12_reads okX12_next [] [] 100 rfl rfl rfl kkX12_next rfl rfl (by decide) rfl rfl rfl (by decide) ⟨Nat.le_refl _, Nat.le_refl _⟩ (Nat.le_of_ble_eq_true rfl) (c_nextT γ hT (PSt_L (m := acc.length) (up_L (Or.inl rfl)) hP) (by obtain ⟨z, hz, e⟩ := (in02 ha).1; rw [e]; exact fun q => absurd (nI_inj (a := z) (b := 17) (by omega) (by decide) q) (by omega))) (fun v1 S1 I1 J1 hp => ?_)
              obtain ⟨rfl, rfl, ⟨X2, rfl, f2, p2⟩, rfl⟩ := hp
              have o2 := Out_4 f2 (Out_L (m := acc.length) (up_L (Or.inl rfl)) hO)
              have em2 := o2.1
              show Rj _ _ _ _ _ _ (68, [some (.ref 100), some (.int (nI acc.length)), some (.int (kK T n i))], [], (SS b c), X2, J, 0, 0)
              refine r_run okX12_reads 8 (cs := [vp_in (16 + (nI acc.length)) 32]) (σ' := (81, [some (.ref 100), some (.int (nI acc.length)), some (.int (kK T n i))], [], (SS b c), (upI X2 121 ((16 + (nI acc.length)).toNatClampNeg) (X2 100 36)), J, 0, 0)) rfl ⟨(by rw [i16]; exact vin (by omega) (by decide)), trivial⟩ ?_
              simp only [i16, c16, em2]
              show Rj _ _ _ _ _ _ (81, [some (.ref 100), some (.int (nI acc.length)), some (.int (kK T n i))], [], (SS b c), (upI X2 121 (16 + acc.length) (nI (cdO acc).length)), J, 0, 0)
              have f3 : fr (qM acc.length) Y (upI X2 121 (16 + acc.length) (nI (cdO acc).length)) := fr_t (fL_M (up_L (Or.inl rfl))) (fr_t (fP_M (f4_P f2)) (fL_M (up_L (Or.inr (Or.inl rfl)))))
              have p3 : PSt T n (upI X2 121 (16 + acc.length) (nI (cdO acc).length)) (i + 1) := PSt_L (up_L (Or.inr (Or.inl rfl))) p2
              have o3 : Out (upI X2 121 (16 + acc.length) (nI (cdO acc).length)) (cdO acc) := Out_L (up_L (Or.inr (Or.inl rfl))) o2
              have op3 : (upI X2 121 (16 + acc.length) (nI (cdO acc).length)) 100 37 = 0 := (f2 100 37 rfl).trans hop
              have z120 : (upI X2 121 (16 + acc.length) (nI (cdO acc).length)) 120 (16 + acc.length) = kK T n i := (f2 120 _ (q4_ln (Or.inl rfl))).trans (by show (if 16 + acc.length = 16 + acc.length then _ else _) = _; rw [if_pos rfl])
              have z121 : (upI X2 121 (16 + acc.length) (nI (cdO acc).length)) 121 (16 + acc.length) = nI (cdO acc).length := by show (if 16 + acc.length = 16 + acc.length then _ else _) = _; rw [if_pos rfl]
              unfold LnE at hE
              by_cases h0 : kK T n i = 0
              · rw [if_pos h0] at hE
                rcases h5 with ⟨e, rfl, hres⟩ | ⟨q, rfl, h6⟩
                · refine r_run okX12_reads 1 (cs := []) (σ' := (82, [some (.ref 100), some (.int (nI acc.length)), some (.int (kK T n i))], [.int (kK T n i)], (SS b c), (upI X2 121 (16 + acc.length) (nI (cdO acc).length)), J, 0, 0)) rfl trivial ?_
                  refine r_ifc okX12_reads rfl (fun (h82 : ¬ (kK T n i) = (0 : Int32)) => ?_) (fun h820 => ?_)
                  · exact absurd h0 h82
                  · have h82 : (kK T n i) = (0 : Int32) := Classical.not_not.mp h820
                    refine r_run okX12_reads 1 (cs := []) (σ' := (86, [some (.ref 100), some (.int (nI acc.length)), some (.int (kK T n i))], [.ref 100], (SS b c), (upI X2 121 (16 + acc.length) (nI (cdO acc).length)), J, 0, 0)) rfl trivial ?_
                    refine r_callV okX12_reads okX12_readSum [] [] 100 rfl rfl rfl kkX12_readSum rfl rfl (by decide) rfl rfl rfl (by decide) ⟨Nat.le_refl _, Nat.le_refl _⟩ (Nat.le_of_ble_eq_true rfl) (ct_F γ rfl (c_readSum γ hT p3 o3 (by omega) (.inl e) hE)) (fun v1 S1 I1 J1 hp => ?_)
                    obtain ⟨rfl, rfl, ⟨X4, rfl, f4, e1, e2⟩, rfl⟩ := hp
                    show Rj _ _ _ _ _ _ (89, [some (.ref 100), some (.int (nI acc.length)), some (.int (kK T n i))], [.int (-1)], (SS b c), X4, J, 0, 0)
                    refine r_run okX12_reads 1 (cs := []) (σ' := (90, [some (.ref 100), some (.int (nI acc.length)), some (.int (kK T n i))], [.int (-1), .int (-1)], (SS b c), X4, J, 0, 0)) rfl trivial ?_
                    refine r_icmp okX12_reads rfl (fun (h90 : ¬ ((-1) : Int32) = ((-1) : Int32)) => ?_) (fun h900 => ?_)
                    · exact absurd h90 (by decide)
                    · have h90 : ((-1) : Int32) = ((-1) : Int32) := Classical.not_not.mp h900
                      refine r_run okX12_reads 1 (cs := []) (σ' := (94, [some (.ref 100), some (.int (nI acc.length)), some (.int (kK T n i))], [.int (-1)], (SS b c), X4, J, 0, 0)) rfl trivial ?_
                      refine r_iret okX12_reads rfl rfl rfl (Nat.le_refl _) (Nat.le_refl _) ?_
                      refine ⟨rfl, rfl, ?_⟩
                      rw [hres]
                      exact ⟨rfl, fr_t hf (fr_t (fM_R f3) (fP_R f4)), e1, e2⟩
                · refine r_run okX12_reads 1 (cs := []) (σ' := (82, [some (.ref 100), some (.int (nI acc.length)), some (.int (kK T n i))], [.int (kK T n i)], (SS b c), (upI X2 121 (16 + acc.length) (nI (cdO acc).length)), J, 0, 0)) rfl trivial ?_
                  refine r_ifc okX12_reads rfl (fun (h82 : ¬ (kK T n i) = (0 : Int32)) => ?_) (fun h820 => ?_)
                  · exact absurd h0 h82
                  · have h82 : (kK T n i) = (0 : Int32) := Classical.not_not.mp h820
                    refine r_run okX12_reads 1 (cs := []) (σ' := (86, [some (.ref 100), some (.int (nI acc.length)), some (.int (kK T n i))], [.ref 100], (SS b c), (upI X2 121 (16 + acc.length) (nI (cdO acc).length)), J, 0, 0)) rfl trivial ?_
                    refine r_callV okX12_reads okX12_readSum [] [] 100 rfl rfl rfl kkX12_readSum rfl rfl (by decide) rfl rfl rfl (by decide) ⟨Nat.le_refl _, Nat.le_refl _⟩ (Nat.le_of_ble_eq_true rfl) (ct_S γ rfl (c_readSum γ hT p3 o3 (by omega) (.inr q) hE)) (fun v1 S1 I1 J1 hp => ?_)
                    obtain ⟨rfl, rfl, ⟨X4, rfl, f4, p4, o4, k4⟩, rfl⟩ := hp
                    have hql := Sm_len hE
                    show Rj _ _ _ _ _ _ (89, [some (.ref 100), some (.int (nI acc.length)), some (.int (kK T n i))], [.int 0], (SS b c), X4, J, 0, 0)
                    refine r_run okX12_reads 1 (cs := []) (σ' := (90, [some (.ref 100), some (.int (nI acc.length)), some (.int (kK T n i))], [.int (-1), .int 0], (SS b c), X4, J, 0, 0)) rfl trivial ?_
                    refine r_icmp okX12_reads rfl (fun (h90 : ¬ (0 : Int32) = ((-1) : Int32)) => ?_) (fun h900 => ?_)
                    · refine rd95 γ (X := X) hT acc.length (by omega) _ (kK T n i) q (cdO acc ++ flt q.1) X4 p4 o4 (by rw [List.length_append]; omega) (k4.2.2.trans op3) res h6 ?_ ?_
                      · intro e Z he hz h1 h2
                        refine ⟨rfl, rfl, ?_⟩
                        rw [he]
                        exact ⟨rfl, fr_t hf (fM_R (fr_t (fr_t f3 (fP_M f4)) hz)), h1, h2⟩
                      · intro u Z hk hz hp ho hl1 hop1 z0 z1 z2 z3
                        rw [show acc.length + 1 = (acc ++ [((kK T n i), q.1, u.1)]).length by simp]
                        refine ih (u.2 + 1) _ Z hk (by rw [List.length_append]; simp; omega) hp (by rw [cdO_1]; exact ho) (by rw [cdO_1]; exact hl1) hop1 (LnAt_s hL (fr_t (fr_t f3 (fP_M f4)) hz) (z0.trans ((f4 120 _ (qP_ln (Or.inl rfl))).trans z120)) (z1.trans ((f4 121 _ (qP_ln (Or.inr (Or.inl rfl)))).trans z121)) z2 z3) (fr_t hf (fM_R (fr_t (fr_t f3 (fP_M f4)) hz)))
                    · have h90 : (0 : Int32) = ((-1) : Int32) := Classical.not_not.mp h900
                      exact absurd h90 (by decide)
              · rw [if_neg h0] at hE
                subst hE
                rcases h5 with ⟨e, h, -⟩ | ⟨q, h, h6⟩
                · cases h
                · cases h
                  refine r_run okX12_reads 1 (cs := []) (σ' := (82, [some (.ref 100), some (.int (nI acc.length)), some (.int (kK T n i))], [.int (kK T n i)], (SS b c), (upI X2 121 (16 + acc.length) (nI (cdO acc).length)), J, 0, 0)) rfl trivial ?_
                  refine r_ifc okX12_reads rfl (fun (h82 : ¬ (kK T n i) = (0 : Int32)) => ?_) (fun h820 => ?_)
                  · refine rd95 γ (X := X) hT acc.length (by omega) _ (kK T n i) ([], i + 1) (cdO acc) (upI X2 121 (16 + acc.length) (nI (cdO acc).length)) p3 o3 (by show _ ≤ i + 1; omega) op3 res h6 ?_ ?_
                    · intro e Z he hz h1 h2
                      refine ⟨rfl, rfl, ?_⟩
                      rw [he]
                      exact ⟨rfl, fr_t hf (fM_R (fr_t f3 hz)), h1, h2⟩
                    · intro u Z hk hz hp ho hl1 hop1 z0 z1 z2 z3
                      rw [show acc.length + 1 = (acc ++ [((kK T n i), ([] : Cd), u.1)]).length by simp]
                      refine ih (u.2 + 1) _ Z hk (by rw [List.length_append]; simp; omega) hp (by rw [cdO_1]; show Out Z (cdO acc ++ [] ++ flt u.1); rw [List.append_nil]; exact ho) (by rw [cdO_1]; show (cdO acc ++ [] ++ flt u.1).length ≤ _; rw [List.append_nil]; exact hl1) hop1 (LnAt_s hL (fr_t f3 hz) (z0.trans z120) (z1.trans z121) (by show _ = nI (cdO acc ++ []).length; rw [List.append_nil]; exact z2) (by show _ = nI (cdO acc ++ [] ++ flt u.1).length; rw [List.append_nil]; exact z3)) (fr_t hf (fM_R (fr_t f3 hz)))
                  · have h82 : (kK T n i) = (0 : Int32) := Classical.not_not.mp h820
                    exact absurd h82 h0
            · have h40 : (nI acc.length) = (16 : Int32) := Classical.not_not.mp h400
              exact absurd (nI_inj (a := acc.length) (b := 16) (by omega) (by decide) h40) h16
    · rw [if_neg ha] at hd
      by_cases k17 : kK T n i = 17
      · rw [if_pos k17] at hd
        have ht : Y 100 26 = 0 := htr.2.2.mpr k17
        refine r_run okX12_reads 3 (cs := []) (σ' := (26, [some (.ref 100), some (.int (nI acc.length)), none], [.int 2, .int (Y 100 26)], (SS b c), Y, J, 0, 0)) rfl trivial ?_
        simp only [ht]
        show Rj _ _ _ _ _ _ (26, [some (.ref 100), some (.int (nI acc.length)), none], [.int 2, .int 0], (SS b c), Y, J, 0, 0)
        refine r_icmp okX12_reads rfl (fun (h26 : ¬ (0 : Int32) = (2 : Int32)) => ?_) (fun h260 => ?_)
        · refine r_run okX12_reads 2 (cs := []) (σ' := (179, [some (.ref 100), some (.int (nI acc.length)), none], [.int (Y 100 26)], (SS b c), Y, J, 0, 0)) rfl trivial ?_
          simp only [ht]
          show Rj _ _ _ _ _ _ (179, [some (.ref 100), some (.int (nI acc.length)), none], [.int 0], (SS b c), Y, J, 0, 0)
          refine r_ifc okX12_reads rfl (fun (h179 : ¬ (0 : Int32) = (0 : Int32)) => ?_) (fun h1790 => ?_)
          · exact absurd h179 (by decide)
          · have h179 : (0 : Int32) = (0 : Int32) := Classical.not_not.mp h1790
            refine r_run okX12_reads 2 (cs := []) (σ' := (191, [some (.ref 100), some (.int (nI acc.length)), none], [.int (nI acc.length)], (SS b c), Y, J, 0, 0)) rfl trivial ?_
            refine r_iret okX12_reads rfl rfl rfl (Nat.le_refl _) (Nat.le_refl _) ?_
            refine ⟨rfl, rfl, ?_⟩
            rw [hd]
            exact ⟨rfl, hf, hL, hO, ha16, by omega⟩
        · have h26 : (0 : Int32) = (2 : Int32) := Classical.not_not.mp h260
          exact absurd h26 (by decide)
      · rw [if_neg k17] at hd
        refine r_run okX12_reads 3 (cs := []) (σ' := (26, [some (.ref 100), some (.int (nI acc.length)), none], [.int 2, .int (Y 100 26)], (SS b c), Y, J, 0, 0)) rfl trivial ?_
        refine r_icmp okX12_reads rfl (fun (h26 : ¬ (Y 100 26) = (2 : Int32)) => ?_) (fun h260 => ?_)
        · refine r_run okX12_reads 2 (cs := []) (σ' := (179, [some (.ref 100), some (.int (nI acc.length)), none], [.int (Y 100 26)], (SS b c), Y, J, 0, 0)) rfl trivial ?_
          refine r_ifc okX12_reads rfl (fun (h179 : ¬ (Y 100 26) = (0 : Int32)) => ?_) (fun h1790 => ?_)
          · refine r_run okX12_reads 2 (cs := []) (σ' := (188, [some (.ref 100), some (.int (nI acc.length)), none], [.int 1, .ref 100], (SS b c), Y, J, 0, 0)) rfl trivial ?_
            refine r_callV okX12_reads okX12_fails [.int 1] [] 100 rfl rfl rfl kkX12_fails rfl rfl (by decide) rfl rfl rfl (by decide) ⟨Nat.le_refl _, Nat.le_refl _⟩ (Nat.le_of_ble_eq_true rfl) (c_fails γ 1) (fun v1 S1 I1 J1 hp => ?_)
            obtain ⟨rfl, rfl, ⟨X1, rfl, f1, e1, e2⟩, rfl⟩ := hp
            show Rj _ _ _ _ _ _ (191, [some (.ref 100), some (.int (nI acc.length)), none], [.int (-1)], (SS b c), X1, J, 0, 0)
            refine r_iret okX12_reads rfl rfl rfl (Nat.le_refl _) (Nat.le_refl _) ?_
            refine ⟨rfl, rfl, ?_⟩
            rw [hd]
            exact ⟨rfl, fr_t hf (fP_R (fF_P f1)), e1, e2.trans hP.2.2.2.2.2.1⟩
          · have h179 : (Y 100 26) = (0 : Int32) := Classical.not_not.mp h1790
            exact absurd (htr.2.2.mp h179) k17
        · have h26 : (Y 100 26) = (2 : Int32) := Classical.not_not.mp h260
          refine r_run okX12_reads 3 (cs := []) (σ' := (34, [some (.ref 100), some (.int (nI acc.length)), none], [.int 2, .int (Y 100 27)], (SS b c), Y, J, 0, 0)) rfl trivial ?_
          refine r_icmp okX12_reads rfl (fun (h34 : (2 : Int32) < (Y 100 27)) => ?_) (fun (h34 : ¬ (2 : Int32) < (Y 100 27)) => ?_)
          · refine r_run okX12_reads 2 (cs := []) (σ' := (179, [some (.ref 100), some (.int (nI acc.length)), none], [.int (Y 100 26)], (SS b c), Y, J, 0, 0)) rfl trivial ?_
            refine r_ifc okX12_reads rfl (fun (h179_1 : ¬ (Y 100 26) = (0 : Int32)) => ?_) (fun h179_10 => ?_)
            · refine r_run okX12_reads 2 (cs := []) (σ' := (188, [some (.ref 100), some (.int (nI acc.length)), none], [.int 1, .ref 100], (SS b c), Y, J, 0, 0)) rfl trivial ?_
              refine r_callV okX12_reads okX12_fails [.int 1] [] 100 rfl rfl rfl kkX12_fails rfl rfl (by decide) rfl rfl rfl (by decide) ⟨Nat.le_refl _, Nat.le_refl _⟩ (Nat.le_of_ble_eq_true rfl) (c_fails γ 1) (fun v1 S1 I1 J1 hp => ?_)
              obtain ⟨rfl, rfl, ⟨X1, rfl, f1, e1, e2⟩, rfl⟩ := hp
              show Rj _ _ _ _ _ _ (191, [some (.ref 100), some (.int (nI acc.length)), none], [.int (-1)], (SS b c), X1, J, 0, 0)
              refine r_iret okX12_reads rfl rfl rfl (Nat.le_refl _) (Nat.le_refl _) ?_
              refine ⟨rfl, rfl, ?_⟩
              rw [hd]
              exact ⟨rfl, fr_t hf (fP_R (fF_P f1)), e1, e2.trans hP.2.2.2.2.2.1⟩
            · have h179_1 : (Y 100 26) = (0 : Int32) := Classical.not_not.mp h179_10
              exact absurd (htr.2.2.mp h179_1) k17
          · exact absurd (by rw [htr.2.1 h26]; exact nin02 ha (htr.1.mp h26)) h34
theorem c_next0 (γ : GE) {b c : Bool} {X : AI} {J : AJ} {n : Nat} (hT : TpOK (X 118) n) (hn : X 100 23 = nI n) (hW : MWds X) (h0 : X 100 24 = 0) : Ct γ mX12_next 2 0 0 [.ref 100] (SS b c) X J (fun r S' I' J' => none = r ∧ (SS b c) = S' ∧ (∃ X', X' = I' ∧ fr q4 X X' ∧ PSt (X 118) n X' 0) ∧ J = J') := by
  refine ct_post (fun r S' I' J' h => ?_) (c_next γ n hn hT.1 hT.2 hW 0 (Nat.zero_le _) h0)
  obtain ⟨rfl, rfl, ⟨tok, val, rfl, hr⟩, rfl⟩ := h
  refine ⟨rfl, rfl, ⟨_, rfl, ?_, ?_⟩, rfl⟩
  · intro a z h
    unfold q4 at h; simp only [Bool.and_eq_false_iff, Bool.or_eq_false_iff] at h
    unfold r4
    by_cases a1 : a = 100
    · rw [if_pos a1]
      rcases h with q | q
      · rw [a1] at q; exact absurd q (by decide)
      · rw [if_neg (fun f => absurd q.1.1.1 (by rw [f]; decide)), if_neg (fun f => absurd q.1.1.2 (by rw [f]; decide)), if_neg (fun f => absurd q.1.2 (by rw [f]; decide)), if_neg (fun f => absurd q.2 (by rw [f]; decide))]
    · rw [if_neg a1]
  · exact ⟨rfl, hn, hW, ⟨Nat.zero_le _, (skE_le (Nat.zero_le _)).2⟩, rfl, rfl, hr⟩
theorem up_R {X : AI} {k : Nat} {v : Int32} (h : qR 100 k = true) : fr qR X (upI X 100 k v) := by
  intro a z hz
  unfold upI
  by_cases a1 : a = 100
  · rw [if_pos a1]
    by_cases z1 : z = k
    · subst a1; subst z1; rw [h] at hz; cases hz
    · rw [if_neg z1]
  · rw [if_neg a1]
theorem c_reads (γ : GE) {b c : Bool} {X : AI} {J : AJ} {n : Nat} (hT : TpOK (X 118) n) (hn : X 100 23 = nI n) (hW : MWds X) (res : RR) (hd : ∃ f, RdT (X 118) n f 0 [] res) : Ct γ mX12_reads 8 0 0 [.ref 100] (SS b c) X J (fun r S' I' J' => (SS b c) = S' ∧ J = J' ∧ RsR (X 118) n X res r I') := by
  refine ct_of okX12_reads (L := [some (.ref 100), none, none]) (Nat.le_of_ble_eq_true rfl) rfl ?_
  refine r_run okX12_reads 12 (cs := []) (σ' := (18, [some (.ref 100), some (.int 0), none], [.ref 100], (SS b c), (upI (upI (upI X 100 24 0) 100 36 0) 100 37 0), J, 0, 0)) rfl trivial ?_
  refine r_callV okX12_reads okX12_next [] [] 100 rfl rfl rfl kkX12_next rfl rfl (by decide) rfl rfl rfl (by decide) ⟨Nat.le_refl _, Nat.le_refl _⟩ (Nat.le_of_ble_eq_true rfl) (c_next0 γ (X := (upI (upI (upI X 100 24 0) 100 36 0) 100 37 0)) hT hn hW rfl) (fun v1 S1 I1 J1 hp => ?_)
  obtain ⟨rfl, rfl, ⟨X1, rfl, f1, p1⟩, rfl⟩ := hp
  show Rj _ _ _ _ _ _ (21, [some (.ref 100), some (.int 0), none], [], (SS b c), X1, J, 0, 0)
  obtain ⟨f, hd⟩ := hd
  refine lp_rd γ hT res f 0 [] X1 hd (Nat.zero_le _) p1 ⟨f1 100 36 rfl, trivial⟩ (Nat.zero_le _) (f1 100 37 rfl) trivial (fr_t (fr_t (up_R rfl) (fr_t (up_R rfl) (up_R rfl))) (fP_R (f4_P f1)))
