/-! ===== Walks: targets ===== -/
def mvl (m : Int32) (x n : Nat) : List Nat := (List.range n).filter (mvS m x)
theorem mvl_s1 {m : Int32} {x n : Nat} (h : mvS m x n = true) : mvl m x (n + 1) = mvl m x n ++ [n] := by
  unfold mvl; rw [List.range_succ, List.filter_append]; simp [h]
theorem mvl_s0 {m : Int32} {x n : Nat} (h : mvS m x n = false) : mvl m x (n + 1) = mvl m x n := by
  unfold mvl; rw [List.range_succ, List.filter_append]; simp [h]
theorem mvl_le {m : Int32} {x n : Nat} : (mvl m x n).length ≤ n := by
  unfold mvl
  have := List.length_filter_le (mvS m x) (List.range n)
  rw [List.length_range] at this; exact this
def offW (m : Int32) : Nat → Nat
  | 0 => 0
  | x + 1 => offW m x + (mvl m x 9).length
theorem off_le {m : Int32} : ∀ x, offW m x ≤ 9 * x
  | 0 => Nat.le_refl _
  | x + 1 => by have := off_le (m := m) x; have := mvl_le (m := m) (x := x) (n := 9); unfold offW; omega
theorem off_mono {m : Int32} {x : Nat} : ∀ {y : Nat}, x ≤ y → offW m x ≤ offW m y
  | 0, h => by rw [Nat.le_zero.mp h]; exact Nat.le_refl _
  | y + 1, h => by
    by_cases e : x = y + 1
    · rw [e]; exact Nat.le_refl _
    · have := off_mono (m := m) (x := x) (y := y) (by omega); show offW m x ≤ offW m y + (mvl m y 9).length; omega
def TgC (I : AI) (m : Int32) (x n : Nat) : Prop := ∀ j d, (mvl m x n)[j]? = some d → I 47 (offW m x + j) = nI (mvT x d)
def Tg (I : AI) (m : Int32) (n : Nat) : Prop := ∀ x, x < n → I 48 x = nI (offW m x) ∧ TgC I m x 9
def TgOK (I : AI) (m : Int32) : Prop := Tg I m 96 ∧ I 48 96 = nI (offW m 96)
theorem Tg_47 {I : AI} {m : Int32} {n k : Nat} {v : Int32} (hk : offW m n ≤ k) (h : Tg I m n) : Tg (upI I 47 k v) m n := by
  intro x hx
  refine ⟨(h x hx).1, fun j d hj => ?_⟩
  have hl := (List.getElem?_eq_some_iff.mp hj).1
  have hm : offW m x + (mvl m x 9).length ≤ offW m n := off_mono (m := m) (x := x + 1) (y := n) (by omega)
  show (if 47 = 47 then (if offW m x + j = k then v else I 47 (offW m x + j)) else I 47 (offW m x + j)) = _
  rw [if_pos rfl, if_neg (by omega)]
  exact (h x hx).2 j d hj
theorem Tg_48 {I : AI} {m : Int32} {n k : Nat} {v : Int32} (hk : n ≤ k) (h : Tg I m n) : Tg (upI I 48 k v) m n := by
  intro x hx
  refine ⟨?_, (h x hx).2⟩
  show (if 48 = 48 then (if x = k then v else I 48 x) else I 48 x) = _
  rw [if_pos rfl, if_neg (by omega)]
  exact (h x hx).1
theorem TgC_s {I : AI} {m : Int32} {x n : Nat} (h : mvS m x n = true) (hc : TgC I m x n) : TgC (upI I 47 (offW m x + (mvl m x n).length) (nI (mvT x n))) m x (n + 1) := by
  intro j d hj
  rw [mvl_s1 h] at hj
  show (if 47 = 47 then (if offW m x + j = offW m x + (mvl m x n).length then _ else I 47 (offW m x + j)) else I 47 (offW m x + j)) = _
  rw [if_pos rfl]
  by_cases e : j = (mvl m x n).length
  · subst e
    rw [List.getElem?_append_right (Nat.le_refl _), Nat.sub_self] at hj
    cases hj
    rw [if_pos rfl]
  · have hl := (List.getElem?_eq_some_iff.mp hj).1
    rw [List.length_append, List.length_singleton] at hl
    rw [List.getElem?_append_left (by omega)] at hj
    rw [if_neg (by omega)]
    exact hc j d hj
theorem lt12 {x : Int32} (h : x < 12) : x ≤ 11 := by rw [Int32.lt_iff_toInt_lt] at h; rw [Int32.le_iff_toInt_le]; have e1 : (12 : Int32).toInt = 12 := rfl; have e2 : (11 : Int32).toInt = 11 := rfl; omega
theorem lt8 {x : Int32} (h : x < 8) : x ≤ 7 := by rw [Int32.lt_iff_toInt_lt] at h; rw [Int32.le_iff_toInt_le]; have e1 : (8 : Int32).toInt = 8 := rfl; have e2 : (7 : Int32).toInt = 7 := rfl; omega
theorem lp_tg1 (γ : GE) {b c : Bool} {I : AI} {J : AJ} {Post : PT} {m : Int32} {q : Nat} (hq : q < 96) (K : ∀ I0 : AI, kI [47, 48] I I0 → I0 42 11 = m → Tg I0 m q → I0 48 q = nI (offW m q) → TgC I0 m q 9 → Rj γ mX9_listTargets 0 0 0 Post (119, [some (.ref 42), some (.int (nI (offW m (q + 1)))), some (.int (nI q)), none, none, none, none], [], (SS b c), I0, J, 0, 0)) : ∀ (j d : Nat) (I0 : AI), d + j = 9 → kI [47, 48] I I0 → I0 42 11 = m → Tg I0 m q → I0 48 q = nI (offW m q) → TgC I0 m q d → Rj γ mX9_listTargets 0 0 0 Post (19, [some (.ref 42), some (.int (nI (offW m q + (mvl m q d).length))), some (.int (nI q)), some (.int (nI d)), none, none, none], [], (SS b c), I0, J, 0, 0) := by
  intro j
  induction j with
  | zero =>
    intro d I0 hj h1 h2 h3 h4 h5
    refine r_run okX9_listTargets 2 (cs := []) (σ' := (22, [some (.ref 42), some (.int (nI (offW m q + (mvl m q d).length))), some (.int (nI q)), some (.int (nI d)), none, none, none], [.int 9, .int (nI d)], (SS b c), I0, J, 0, 0)) rfl trivial ?_
    refine r_icmp okX9_listTargets rfl (fun (h22 : (9 : Int32) ≤ (nI d)) => ?_) (fun (h22 : ¬ (9 : Int32) ≤ (nI d)) => ?_)
    · have e : d = 9 := by omega
      subst e
      refine r_weak (L' := [some (.ref 42), some (.int (nI (offW m (q + 1)))), some (.int (nI q)), none, none, none, none]) ⟨rfl, rfl, rfl, trivial⟩ ?_
      exact K I0 h1 h2 h3 h4 h5
    · exact absurd (nI_le (a := 9) (b := d) (by omega) (by omega)) h22
  | succ j ih =>
    intro d I0 hj h1 h2 h3 h4 h5
    have hol := off_le (m := m) q
    have hml := mvl_le (m := m) (x := q) (n := d)
    have cs0 : (nI (offW m q + (mvl m q d).length)).toNatClampNeg = offW m q + (mvl m q d).length := nI_clamp (by omega)
    have hX := (mv_dec q hq d (by omega)).1
    by_cases hok : mvOK q d = true
    · have hmt : ((((nI q) / 12) + ((nI d) / 3)) - 1) * 12 + ((((nI q) - (nI q) / 12 * 12) + ((nI d) - (nI d) / 3 * 3)) - 1) = nI (mvT q d) := by rw [Int32.mul_comm]; exact ((mv_dec q hq d (by omega)).2 hok).1
      rw [hok, Bool.and_eq_true] at hX
      have hx := inB_t.mp hX.1
      have hy := inB_t.mp hX.2
      by_cases hon : mvOn m d = true
      · refine r_run okX9_listTargets 2 (cs := []) (σ' := (22, [some (.ref 42), some (.int (nI (offW m q + (mvl m q d).length))), some (.int (nI q)), some (.int (nI d)), none, none, none], [.int 9, .int (nI d)], (SS b c), I0, J, 0, 0)) rfl trivial ?_
        refine r_icmp okX9_listTargets rfl (fun (h22 : (9 : Int32) ≤ (nI d)) => ?_) (fun (h22 : ¬ (9 : Int32) ≤ (nI d)) => ?_)
        · exact absurd h22 (nI_ge (a := d) (b := 9) (by omega) (by decide))
        · refine r_run okX9_listTargets 21 (cs := [¬ (12 : Int32) = 0, ¬ (3 : Int32) = 0, ¬ (12 : Int32) = 0, ¬ (3 : Int32) = 0]) (σ' := (51, [some (.ref 42), some (.int (nI (offW m q + (mvl m q d).length))), some (.int (nI q)), some (.int (nI d)), some (.int ((((nI q) - (nI q) / 12 * 12) + ((nI d) - (nI d) / 3 * 3)) - 1)), some (.int ((((nI q) / 12) + ((nI d) / 3)) - 1)), none], [.int ((((nI q) - (nI q) / 12 * 12) + ((nI d) - (nI d) / 3 * 3)) - 1)], (SS b c), I0, J, 0, 0)) rfl ⟨(by decide), (by decide), (by decide), (by decide), trivial⟩ ?_
          refine r_ifc okX9_listTargets rfl (fun (h51 : ((((nI q) - (nI q) / 12 * 12) + ((nI d) - (nI d) / 3 * 3)) - 1) < (0 : Int32)) => ?_) (fun (h51 : ¬ ((((nI q) - (nI q) / 12 * 12) + ((nI d) - (nI d) / 3 * 3)) - 1) < (0 : Int32)) => ?_)
          · exact absurd h51 (Int32.not_lt.mpr hx.1)
          · refine r_run okX9_listTargets 2 (cs := []) (σ' := (58, [some (.ref 42), some (.int (nI (offW m q + (mvl m q d).length))), some (.int (nI q)), some (.int (nI d)), some (.int ((((nI q) - (nI q) / 12 * 12) + ((nI d) - (nI d) / 3 * 3)) - 1)), some (.int ((((nI q) / 12) + ((nI d) / 3)) - 1)), none], [.int 12, .int ((((nI q) - (nI q) / 12 * 12) + ((nI d) - (nI d) / 3 * 3)) - 1)], (SS b c), I0, J, 0, 0)) rfl trivial ?_
            refine r_icmp okX9_listTargets rfl (fun (h58 : (12 : Int32) ≤ ((((nI q) - (nI q) / 12 * 12) + ((nI d) - (nI d) / 3 * 3)) - 1)) => ?_) (fun (h58 : ¬ (12 : Int32) ≤ ((((nI q) - (nI q) / 12 * 12) + ((nI d) - (nI d) / 3 * 3)) - 1)) => ?_)
            · exact absurd h58 (Int32.not_le.mpr (Int32.lt_of_le_of_lt hx.2 (by decide)))
            · refine r_run okX9_listTargets 1 (cs := []) (σ' := (63, [some (.ref 42), some (.int (nI (offW m q + (mvl m q d).length))), some (.int (nI q)), some (.int (nI d)), some (.int ((((nI q) - (nI q) / 12 * 12) + ((nI d) - (nI d) / 3 * 3)) - 1)), some (.int ((((nI q) / 12) + ((nI d) / 3)) - 1)), none], [.int ((((nI q) / 12) + ((nI d) / 3)) - 1)], (SS b c), I0, J, 0, 0)) rfl trivial ?_
              refine r_ifc okX9_listTargets rfl (fun (h63 : ((((nI q) / 12) + ((nI d) / 3)) - 1) < (0 : Int32)) => ?_) (fun (h63 : ¬ ((((nI q) / 12) + ((nI d) / 3)) - 1) < (0 : Int32)) => ?_)
              · exact absurd h63 (Int32.not_lt.mpr hy.1)
              · refine r_run okX9_listTargets 2 (cs := []) (σ' := (70, [some (.ref 42), some (.int (nI (offW m q + (mvl m q d).length))), some (.int (nI q)), some (.int (nI d)), some (.int ((((nI q) - (nI q) / 12 * 12) + ((nI d) - (nI d) / 3 * 3)) - 1)), some (.int ((((nI q) / 12) + ((nI d) / 3)) - 1)), none], [.int 8, .int ((((nI q) / 12) + ((nI d) / 3)) - 1)], (SS b c), I0, J, 0, 0)) rfl trivial ?_
                refine r_icmp okX9_listTargets rfl (fun (h70 : (8 : Int32) ≤ ((((nI q) / 12) + ((nI d) / 3)) - 1)) => ?_) (fun (h70 : ¬ (8 : Int32) ≤ ((((nI q) / 12) + ((nI d) / 3)) - 1)) => ?_)
                · exact absurd h70 (Int32.not_le.mpr (Int32.lt_of_le_of_lt hy.2 (by decide)))
                · refine r_run okX9_listTargets 4 (cs := []) (σ' := (82, [some (.ref 42), some (.int (nI (offW m q + (mvl m q d).length))), some (.int (nI q)), some (.int (nI d)), some (.int ((((nI q) - (nI q) / 12 * 12) + ((nI d) - (nI d) / 3 * 3)) - 1)), some (.int ((((nI q) / 12) + ((nI d) / 3)) - 1)), some (.int 1)], [.int 1], (SS b c), I0, J, 0, 0)) rfl trivial ?_
                  refine r_ifc okX9_listTargets rfl (fun (h82 : (1 : Int32) = (0 : Int32)) => ?_) (fun (h82 : ¬ (1 : Int32) = (0 : Int32)) => ?_)
                  · exact absurd h82 (by decide)
                  · refine r_run okX9_listTargets 6 (cs := []) (σ' := (93, [some (.ref 42), some (.int (nI (offW m q + (mvl m q d).length))), some (.int (nI q)), some (.int (nI d)), some (.int ((((nI q) - (nI q) / 12 * 12) + ((nI d) - (nI d) / 3 * 3)) - 1)), some (.int ((((nI q) / 12) + ((nI d) / 3)) - 1)), some (.int 1)], [.int (((I0 42 11) >>> ((nI d) &&& 31)) &&& 1)], (SS b c), I0, J, 0, 0)) rfl trivial ?_
                    simp only [h2]
                    show Rj _ _ _ _ _ _ (93, [some (.ref 42), some (.int (nI (offW m q + (mvl m q d).length))), some (.int (nI q)), some (.int (nI d)), some (.int ((((nI q) - (nI q) / 12 * 12) + ((nI d) - (nI d) / 3 * 3)) - 1)), some (.int ((((nI q) / 12) + ((nI d) / 3)) - 1)), some (.int 1)], [.int ((m >>> ((nI d) &&& 31)) &&& 1)], (SS b c), I0, J, 0, 0)
                    refine r_ifc okX9_listTargets rfl (fun (h93 : ((m >>> ((nI d) &&& 31)) &&& 1) = (0 : Int32)) => ?_) (fun (h93 : ¬ ((m >>> ((nI d) &&& 31)) &&& 1) = (0 : Int32)) => ?_)
                    · exact absurd h93 (on_1.mpr hon)
                    · refine r_run okX9_listTargets 12 (cs := [vp_in (nI (offW m q + (mvl m q d).length)) 864]) (σ' := (19, [some (.ref 42), some (.int ((nI (offW m q + (mvl m q d).length)) + 1)), some (.int (nI q)), some (.int ((nI d) + 1)), some (.int ((((nI q) - (nI q) / 12 * 12) + ((nI d) - (nI d) / 3 * 3)) - 1)), some (.int ((((nI q) / 12) + ((nI d) / 3)) - 1)), some (.int 1)], [], (SS b c), (upI I0 47 ((nI (offW m q + (mvl m q d).length)).toNatClampNeg) ((((((nI q) / 12) + ((nI d) / 3)) - 1) * 12) + ((((nI q) - (nI q) / 12 * 12) + ((nI d) - (nI d) / 3 * 3)) - 1))), J, 0, 0)) rfl ⟨(vin (by omega) (by decide)), trivial⟩ ?_
                      simp only [hmt, cs0]
                      show Rj _ _ _ _ _ _ (19, [some (.ref 42), some (.int ((nI (offW m q + (mvl m q d).length)) + 1)), some (.int (nI q)), some (.int ((nI d) + 1)), some (.int ((((nI q) - (nI q) / 12 * 12) + ((nI d) - (nI d) / 3 * 3)) - 1)), some (.int ((((nI q) / 12) + ((nI d) / 3)) - 1)), some (.int 1)], [], (SS b c), (upI I0 47 (offW m q + (mvl m q d).length) (nI (mvT q d))), J, 0, 0)
                      rw [nI_eq1, nI_eq1]
                      have es : mvS m q d = true := by unfold mvS; rw [hok, Bool.and_true]; exact hon
                      refine r_weak (L' := [some (.ref 42), some (.int (nI (offW m q + (mvl m q d).length + 1))), some (.int (nI q)), some (.int (nI (d + 1))), none, none, none]) ⟨rfl, rfl, rfl, rfl, trivial⟩ ?_
                      rw [show offW m q + (mvl m q d).length + 1 = offW m q + (mvl m q (d + 1)).length by rw [mvl_s1 es, List.length_append, List.length_singleton]; omega]
                      exact ih (d + 1) _ (by omega) (kI_t h1 (kI_up (by decide))) h2 (Tg_47 (by omega) h3) h4 (TgC_s es h5)
      · have hon : decide ((m >>> (nI d &&& 31)) &&& 1 = 1) = false := by cases z : mvOn m d with | false => exact z | true => exact absurd z hon
        refine r_run okX9_listTargets 2 (cs := []) (σ' := (22, [some (.ref 42), some (.int (nI (offW m q + (mvl m q d).length))), some (.int (nI q)), some (.int (nI d)), none, none, none], [.int 9, .int (nI d)], (SS b c), I0, J, 0, 0)) rfl trivial ?_
        refine r_icmp okX9_listTargets rfl (fun (h22 : (9 : Int32) ≤ (nI d)) => ?_) (fun (h22 : ¬ (9 : Int32) ≤ (nI d)) => ?_)
        · exact absurd h22 (nI_ge (a := d) (b := 9) (by omega) (by decide))
        · refine r_run okX9_listTargets 21 (cs := [¬ (12 : Int32) = 0, ¬ (3 : Int32) = 0, ¬ (12 : Int32) = 0, ¬ (3 : Int32) = 0]) (σ' := (51, [some (.ref 42), some (.int (nI (offW m q + (mvl m q d).length))), some (.int (nI q)), some (.int (nI d)), some (.int ((((nI q) - (nI q) / 12 * 12) + ((nI d) - (nI d) / 3 * 3)) - 1)), some (.int ((((nI q) / 12) + ((nI d) / 3)) - 1)), none], [.int ((((nI q) - (nI q) / 12 * 12) + ((nI d) - (nI d) / 3 * 3)) - 1)], (SS b c), I0, J, 0, 0)) rfl ⟨(by decide), (by decide), (by decide), (by decide), trivial⟩ ?_
          refine r_ifc okX9_listTargets rfl (fun (h51 : ((((nI q) - (nI q) / 12 * 12) + ((nI d) - (nI d) / 3 * 3)) - 1) < (0 : Int32)) => ?_) (fun (h51 : ¬ ((((nI q) - (nI q) / 12 * 12) + ((nI d) - (nI d) / 3 * 3)) - 1) < (0 : Int32)) => ?_)
          · exact absurd h51 (Int32.not_lt.mpr hx.1)
          · refine r_run okX9_listTargets 2 (cs := []) (σ' := (58, [some (.ref 42), some (.int (nI (offW m q + (mvl m q d).length))), some (.int (nI q)), some (.int (nI d)), some (.int ((((nI q) - (nI q) / 12 * 12) + ((nI d) - (nI d) / 3 * 3)) - 1)), some (.int ((((nI q) / 12) + ((nI d) / 3)) - 1)), none], [.int 12, .int ((((nI q) - (nI q) / 12 * 12) + ((nI d) - (nI d) / 3 * 3)) - 1)], (SS b c), I0, J, 0, 0)) rfl trivial ?_
            refine r_icmp okX9_listTargets rfl (fun (h58 : (12 : Int32) ≤ ((((nI q) - (nI q) / 12 * 12) + ((nI d) - (nI d) / 3 * 3)) - 1)) => ?_) (fun (h58 : ¬ (12 : Int32) ≤ ((((nI q) - (nI q) / 12 * 12) + ((nI d) - (nI d) / 3 * 3)) - 1)) => ?_)
            · exact absurd h58 (Int32.not_le.mpr (Int32.lt_of_le_of_lt hx.2 (by decide)))
            · refine r_run okX9_listTargets 1 (cs := []) (σ' := (63, [some (.ref 42), some (.int (nI (offW m q + (mvl m q d).length))), some (.int (nI q)), some (.int (nI d)), some (.int ((((nI q) - (nI q) / 12 * 12) + ((nI d) - (nI d) / 3 * 3)) - 1)), some (.int ((((nI q) / 12) + ((nI d) / 3)) - 1)), none], [.int ((((nI q) / 12) + ((nI d) / 3)) - 1)], (SS b c), I0, J, 0, 0)) rfl trivial ?_
              refine r_ifc okX9_listTargets rfl (fun (h63 : ((((nI q) / 12) + ((nI d) / 3)) - 1) < (0 : Int32)) => ?_) (fun (h63 : ¬ ((((nI q) / 12) + ((nI d) / 3)) - 1) < (0 : Int32)) => ?_)
              · exact absurd h63 (Int32.not_lt.mpr hy.1)
              · refine r_run okX9_listTargets 2 (cs := []) (σ' := (70, [some (.ref 42), some (.int (nI (offW m q + (mvl m q d).length))), some (.int (nI q)), some (.int (nI d)), some (.int ((((nI q) - (nI q) / 12 * 12) + ((nI d) - (nI d) / 3 * 3)) - 1)), some (.int ((((nI q) / 12) + ((nI d) / 3)) - 1)), none], [.int 8, .int ((((nI q) / 12) + ((nI d) / 3)) - 1)], (SS b c), I0, J, 0, 0)) rfl trivial ?_
                refine r_icmp okX9_listTargets rfl (fun (h70 : (8 : Int32) ≤ ((((nI q) / 12) + ((nI d) / 3)) - 1)) => ?_) (fun (h70 : ¬ (8 : Int32) ≤ ((((nI q) / 12) + ((nI d) / 3)) - 1)) => ?_)
                · exact absurd h70 (Int32.not_le.mpr (Int32.lt_of_le_of_lt hy.2 (by decide)))
                · refine r_run okX9_listTargets 4 (cs := []) (σ' := (82, [some (.ref 42), some (.int (nI (offW m q + (mvl m q d).length))), some (.int (nI q)), some (.int (nI d)), some (.int ((((nI q) - (nI q) / 12 * 12) + ((nI d) - (nI d) / 3 * 3)) - 1)), some (.int ((((nI q) / 12) + ((nI d) / 3)) - 1)), some (.int 1)], [.int 1], (SS b c), I0, J, 0, 0)) rfl trivial ?_
                  refine r_ifc okX9_listTargets rfl (fun (h82 : (1 : Int32) = (0 : Int32)) => ?_) (fun (h82 : ¬ (1 : Int32) = (0 : Int32)) => ?_)
                  · exact absurd h82 (by decide)
                  · refine r_run okX9_listTargets 6 (cs := []) (σ' := (93, [some (.ref 42), some (.int (nI (offW m q + (mvl m q d).length))), some (.int (nI q)), some (.int (nI d)), some (.int ((((nI q) - (nI q) / 12 * 12) + ((nI d) - (nI d) / 3 * 3)) - 1)), some (.int ((((nI q) / 12) + ((nI d) / 3)) - 1)), some (.int 1)], [.int (((I0 42 11) >>> ((nI d) &&& 31)) &&& 1)], (SS b c), I0, J, 0, 0)) rfl trivial ?_
                    simp only [h2]
                    show Rj _ _ _ _ _ _ (93, [some (.ref 42), some (.int (nI (offW m q + (mvl m q d).length))), some (.int (nI q)), some (.int (nI d)), some (.int ((((nI q) - (nI q) / 12 * 12) + ((nI d) - (nI d) / 3 * 3)) - 1)), some (.int ((((nI q) / 12) + ((nI d) / 3)) - 1)), some (.int 1)], [.int ((m >>> ((nI d) &&& 31)) &&& 1)], (SS b c), I0, J, 0, 0)
                    refine r_ifc okX9_listTargets rfl (fun (h93 : ((m >>> ((nI d) &&& 31)) &&& 1) = (0 : Int32)) => ?_) (fun (h93 : ¬ ((m >>> ((nI d) &&& 31)) &&& 1) = (0 : Int32)) => ?_)
                    · refine r_run okX9_listTargets 2 (cs := []) (σ' := (19, [some (.ref 42), some (.int (nI (offW m q + (mvl m q d).length))), some (.int (nI q)), some (.int ((nI d) + 1)), some (.int ((((nI q) - (nI q) / 12 * 12) + ((nI d) - (nI d) / 3 * 3)) - 1)), some (.int ((((nI q) / 12) + ((nI d) / 3)) - 1)), some (.int 1)], [], (SS b c), I0, J, 0, 0)) rfl trivial ?_
                      rw [nI_eq1]
                      have es : mvS m q d = false := by unfold mvS; rw [show mvOn m d = false from hon, Bool.false_and]
                      refine r_weak (L' := [some (.ref 42), some (.int (nI (offW m q + (mvl m q d).length))), some (.int (nI q)), some (.int (nI (d + 1))), none, none, none]) ⟨rfl, rfl, rfl, rfl, trivial⟩ ?_
                      rw [← mvl_s0 es]
                      exact ih (d + 1) I0 (by omega) h1 h2 h3 h4 (by unfold TgC; rw [mvl_s0 es]; exact h5)
                    · exact absurd (on_0.mpr hon) h93
    · rw [Bool.not_eq_true] at hok
      refine r_run okX9_listTargets 2 (cs := []) (σ' := (22, [some (.ref 42), some (.int (nI (offW m q + (mvl m q d).length))), some (.int (nI q)), some (.int (nI d)), none, none, none], [.int 9, .int (nI d)], (SS b c), I0, J, 0, 0)) rfl trivial ?_
      refine r_icmp okX9_listTargets rfl (fun (h22 : (9 : Int32) ≤ (nI d)) => ?_) (fun (h22 : ¬ (9 : Int32) ≤ (nI d)) => ?_)
      · exact absurd h22 (nI_ge (a := d) (b := 9) (by omega) (by decide))
      · refine r_run okX9_listTargets 21 (cs := [¬ (12 : Int32) = 0, ¬ (3 : Int32) = 0, ¬ (12 : Int32) = 0, ¬ (3 : Int32) = 0]) (σ' := (51, [some (.ref 42), some (.int (nI (offW m q + (mvl m q d).length))), some (.int (nI q)), some (.int (nI d)), some (.int ((((nI q) - (nI q) / 12 * 12) + ((nI d) - (nI d) / 3 * 3)) - 1)), some (.int ((((nI q) / 12) + ((nI d) / 3)) - 1)), none], [.int ((((nI q) - (nI q) / 12 * 12) + ((nI d) - (nI d) / 3 * 3)) - 1)], (SS b c), I0, J, 0, 0)) rfl ⟨(by decide), (by decide), (by decide), (by decide), trivial⟩ ?_
        refine r_ifc okX9_listTargets rfl (fun (h51 : ((((nI q) - (nI q) / 12 * 12) + ((nI d) - (nI d) / 3 * 3)) - 1) < (0 : Int32)) => ?_) (fun (h51 : ¬ ((((nI q) - (nI q) / 12 * 12) + ((nI d) - (nI d) / 3 * 3)) - 1) < (0 : Int32)) => ?_)
        · refine r_run okX9_listTargets 3 (cs := []) (σ' := (82, [some (.ref 42), some (.int (nI (offW m q + (mvl m q d).length))), some (.int (nI q)), some (.int (nI d)), some (.int ((((nI q) - (nI q) / 12 * 12) + ((nI d) - (nI d) / 3 * 3)) - 1)), some (.int ((((nI q) / 12) + ((nI d) / 3)) - 1)), some (.int 0)], [.int 0], (SS b c), I0, J, 0, 0)) rfl trivial ?_
          refine r_ifc okX9_listTargets rfl (fun (h82 : (0 : Int32) = (0 : Int32)) => ?_) (fun (h82 : ¬ (0 : Int32) = (0 : Int32)) => ?_)
          · refine r_run okX9_listTargets 2 (cs := []) (σ' := (19, [some (.ref 42), some (.int (nI (offW m q + (mvl m q d).length))), some (.int (nI q)), some (.int ((nI d) + 1)), some (.int ((((nI q) - (nI q) / 12 * 12) + ((nI d) - (nI d) / 3 * 3)) - 1)), some (.int ((((nI q) / 12) + ((nI d) / 3)) - 1)), some (.int 0)], [], (SS b c), I0, J, 0, 0)) rfl trivial ?_
            rw [nI_eq1]
            have es : mvS m q d = false := by unfold mvS; rw [hok, Bool.and_false]
            refine r_weak (L' := [some (.ref 42), some (.int (nI (offW m q + (mvl m q d).length))), some (.int (nI q)), some (.int (nI (d + 1))), none, none, none]) ⟨rfl, rfl, rfl, rfl, trivial⟩ ?_
            rw [← mvl_s0 es]
            exact ih (d + 1) I0 (by omega) h1 h2 h3 h4 (by unfold TgC; rw [mvl_s0 es]; exact h5)
          · exact absurd h82 (by decide)
        · refine r_run okX9_listTargets 2 (cs := []) (σ' := (58, [some (.ref 42), some (.int (nI (offW m q + (mvl m q d).length))), some (.int (nI q)), some (.int (nI d)), some (.int ((((nI q) - (nI q) / 12 * 12) + ((nI d) - (nI d) / 3 * 3)) - 1)), some (.int ((((nI q) / 12) + ((nI d) / 3)) - 1)), none], [.int 12, .int ((((nI q) - (nI q) / 12 * 12) + ((nI d) - (nI d) / 3 * 3)) - 1)], (SS b c), I0, J, 0, 0)) rfl trivial ?_
          refine r_icmp okX9_listTargets rfl (fun (h58 : (12 : Int32) ≤ ((((nI q) - (nI q) / 12 * 12) + ((nI d) - (nI d) / 3 * 3)) - 1)) => ?_) (fun (h58 : ¬ (12 : Int32) ≤ ((((nI q) - (nI q) / 12 * 12) + ((nI d) - (nI d) / 3 * 3)) - 1)) => ?_)
          · refine r_run okX9_listTargets 3 (cs := []) (σ' := (82, [some (.ref 42), some (.int (nI (offW m q + (mvl m q d).length))), some (.int (nI q)), some (.int (nI d)), some (.int ((((nI q) - (nI q) / 12 * 12) + ((nI d) - (nI d) / 3 * 3)) - 1)), some (.int ((((nI q) / 12) + ((nI d) / 3)) - 1)), some (.int 0)], [.int 0], (SS b c), I0, J, 0, 0)) rfl trivial ?_
            refine r_ifc okX9_listTargets rfl (fun (h82_1 : (0 : Int32) = (0 : Int32)) => ?_) (fun (h82_1 : ¬ (0 : Int32) = (0 : Int32)) => ?_)
            · refine r_run okX9_listTargets 2 (cs := []) (σ' := (19, [some (.ref 42), some (.int (nI (offW m q + (mvl m q d).length))), some (.int (nI q)), some (.int ((nI d) + 1)), some (.int ((((nI q) - (nI q) / 12 * 12) + ((nI d) - (nI d) / 3 * 3)) - 1)), some (.int ((((nI q) / 12) + ((nI d) / 3)) - 1)), some (.int 0)], [], (SS b c), I0, J, 0, 0)) rfl trivial ?_
              rw [nI_eq1]
              have es : mvS m q d = false := by unfold mvS; rw [hok, Bool.and_false]
              refine r_weak (L' := [some (.ref 42), some (.int (nI (offW m q + (mvl m q d).length))), some (.int (nI q)), some (.int (nI (d + 1))), none, none, none]) ⟨rfl, rfl, rfl, rfl, trivial⟩ ?_
              rw [← mvl_s0 es]
              exact ih (d + 1) I0 (by omega) h1 h2 h3 h4 (by unfold TgC; rw [mvl_s0 es]; exact h5)
            · exact absurd h82_1 (by decide)
          · refine r_run okX9_listTargets 1 (cs := []) (σ' := (63, [some (.ref 42), some (.int (nI (offW m q + (mvl m q d).length))), some (.int (nI q)), some (.int (nI d)), some (.int ((((nI q) - (nI q) / 12 * 12) + ((nI d) - (nI d) / 3 * 3)) - 1)), some (.int ((((nI q) / 12) + ((nI d) / 3)) - 1)), none], [.int ((((nI q) / 12) + ((nI d) / 3)) - 1)], (SS b c), I0, J, 0, 0)) rfl trivial ?_
            refine r_ifc okX9_listTargets rfl (fun (h63 : ((((nI q) / 12) + ((nI d) / 3)) - 1) < (0 : Int32)) => ?_) (fun (h63 : ¬ ((((nI q) / 12) + ((nI d) / 3)) - 1) < (0 : Int32)) => ?_)
            · refine r_run okX9_listTargets 3 (cs := []) (σ' := (82, [some (.ref 42), some (.int (nI (offW m q + (mvl m q d).length))), some (.int (nI q)), some (.int (nI d)), some (.int ((((nI q) - (nI q) / 12 * 12) + ((nI d) - (nI d) / 3 * 3)) - 1)), some (.int ((((nI q) / 12) + ((nI d) / 3)) - 1)), some (.int 0)], [.int 0], (SS b c), I0, J, 0, 0)) rfl trivial ?_
              refine r_ifc okX9_listTargets rfl (fun (h82_2 : (0 : Int32) = (0 : Int32)) => ?_) (fun (h82_2 : ¬ (0 : Int32) = (0 : Int32)) => ?_)
              · refine r_run okX9_listTargets 2 (cs := []) (σ' := (19, [some (.ref 42), some (.int (nI (offW m q + (mvl m q d).length))), some (.int (nI q)), some (.int ((nI d) + 1)), some (.int ((((nI q) - (nI q) / 12 * 12) + ((nI d) - (nI d) / 3 * 3)) - 1)), some (.int ((((nI q) / 12) + ((nI d) / 3)) - 1)), some (.int 0)], [], (SS b c), I0, J, 0, 0)) rfl trivial ?_
                rw [nI_eq1]
                have es : mvS m q d = false := by unfold mvS; rw [hok, Bool.and_false]
                refine r_weak (L' := [some (.ref 42), some (.int (nI (offW m q + (mvl m q d).length))), some (.int (nI q)), some (.int (nI (d + 1))), none, none, none]) ⟨rfl, rfl, rfl, rfl, trivial⟩ ?_
                rw [← mvl_s0 es]
                exact ih (d + 1) I0 (by omega) h1 h2 h3 h4 (by unfold TgC; rw [mvl_s0 es]; exact h5)
              · exact absurd h82_2 (by decide)
            · refine r_run okX9_listTargets 2 (cs := []) (σ' := (70, [some (.ref 42), some (.int (nI (offW m q + (mvl m q d).length))), some (.int (nI q)), some (.int (nI d)), some (.int ((((nI q) - (nI q) / 12 * 12) + ((nI d) - (nI d) / 3 * 3)) - 1)), some (.int ((((nI q) / 12) + ((nI d) / 3)) - 1)), none], [.int 8, .int ((((nI q) / 12) + ((nI d) / 3)) - 1)], (SS b c), I0, J, 0, 0)) rfl trivial ?_
              refine r_icmp okX9_listTargets rfl (fun (h70 : (8 : Int32) ≤ ((((nI q) / 12) + ((nI d) / 3)) - 1)) => ?_) (fun (h70 : ¬ (8 : Int32) ≤ ((((nI q) / 12) + ((nI d) / 3)) - 1)) => ?_)
              · refine r_run okX9_listTargets 3 (cs := []) (σ' := (82, [some (.ref 42), some (.int (nI (offW m q + (mvl m q d).length))), some (.int (nI q)), some (.int (nI d)), some (.int ((((nI q) - (nI q) / 12 * 12) + ((nI d) - (nI d) / 3 * 3)) - 1)), some (.int ((((nI q) / 12) + ((nI d) / 3)) - 1)), some (.int 0)], [.int 0], (SS b c), I0, J, 0, 0)) rfl trivial ?_
                refine r_ifc okX9_listTargets rfl (fun (h82_3 : (0 : Int32) = (0 : Int32)) => ?_) (fun (h82_3 : ¬ (0 : Int32) = (0 : Int32)) => ?_)
                · refine r_run okX9_listTargets 2 (cs := []) (σ' := (19, [some (.ref 42), some (.int (nI (offW m q + (mvl m q d).length))), some (.int (nI q)), some (.int ((nI d) + 1)), some (.int ((((nI q) - (nI q) / 12 * 12) + ((nI d) - (nI d) / 3 * 3)) - 1)), some (.int ((((nI q) / 12) + ((nI d) / 3)) - 1)), some (.int 0)], [], (SS b c), I0, J, 0, 0)) rfl trivial ?_
                  rw [nI_eq1]
                  have es : mvS m q d = false := by unfold mvS; rw [hok, Bool.and_false]
                  refine r_weak (L' := [some (.ref 42), some (.int (nI (offW m q + (mvl m q d).length))), some (.int (nI q)), some (.int (nI (d + 1))), none, none, none]) ⟨rfl, rfl, rfl, rfl, trivial⟩ ?_
                  rw [← mvl_s0 es]
                  exact ih (d + 1) I0 (by omega) h1 h2 h3 h4 (by unfold TgC; rw [mvl_s0 es]; exact h5)
                · exact absurd h82_3 (by decide)
              · exact absurd (show mvOK q d = true by rw [← hX, Bool.and_eq_true]; exact ⟨inB_t.mpr ⟨Int32.not_lt.mp h51, lt12 (Int32.not_le.mp h58)⟩, inB_t.mpr ⟨Int32.not_lt.mp h63, lt8 (Int32.not_le.mp h70)⟩⟩) (by rw [hok]; decide)
theorem lp_tg2 (γ : GE) {b c : Bool} {I : AI} {J : AJ} {m : Int32} : ∀ (j q : Nat) (I0 : AI), q + j = 96 → kI [47, 48] I I0 → I0 42 11 = m → Tg I0 m q → Rj γ mX9_listTargets 0 0 0 (fun rt S' I' J' => none = rt ∧ (SS b c) = S' ∧ kI [47, 48] I I' ∧ TgOK I' m ∧ J = J') (4, [some (.ref 42), some (.int (nI (offW m q))), some (.int (nI q)), none, none, none, none], [], (SS b c), I0, J, 0, 0) := by
  intro j
  induction j with
  | zero =>
    intro q I0 hj h1 h2 h3
    refine r_run okX9_listTargets 2 (cs := []) (σ' := (7, [some (.ref 42), some (.int (nI (offW m q))), some (.int (nI q)), none, none, none, none], [.int 96, .int (nI q)], (SS b c), I0, J, 0, 0)) rfl trivial ?_
    refine r_icmp okX9_listTargets rfl (fun (h7 : (96 : Int32) ≤ (nI q)) => ?_) (fun (h7 : ¬ (96 : Int32) ≤ (nI q)) => ?_)
    · refine r_run okX9_listTargets 5 (cs := [vp_in 96 97]) (σ' := (133, [some (.ref 42), some (.int (nI (offW m q))), some (.int (nI q)), none, none, none, none], [], (SS b c), (upI I0 48 ((96 : Int32).toNatClampNeg) (nI (offW m q))), J, 0, 0)) rfl ⟨(vin (a := 96) (by decide) (by decide)), trivial⟩ ?_
      refine r_vret okX9_listTargets rfl rfl (Nat.le_refl _) (Nat.le_refl _) ?_
      have e : q = 96 := by omega
      subst e
      refine ⟨rfl, rfl, kI_t h1 (kI_up (by decide)), ⟨Tg_48 (Nat.le_refl _) h3, ?_⟩, rfl⟩
      show (if 48 = 48 then (if 96 = (96 : Int32).toNatClampNeg then _ else _) else _) = _
      rw [if_pos rfl, if_pos (by decide)]
    · exact absurd (nI_le (a := 96) (b := q) (by omega) (by omega)) h7
  | succ j ih =>
    intro q I0 hj h1 h2 h3
    have cq : (nI q).toNatClampNeg = q := nI_clamp (by omega)
    refine r_run okX9_listTargets 2 (cs := []) (σ' := (7, [some (.ref 42), some (.int (nI (offW m q))), some (.int (nI q)), none, none, none, none], [.int 96, .int (nI q)], (SS b c), I0, J, 0, 0)) rfl trivial ?_
    refine r_icmp okX9_listTargets rfl (fun (h7 : (96 : Int32) ≤ (nI q)) => ?_) (fun (h7 : ¬ (96 : Int32) ≤ (nI q)) => ?_)
    · exact absurd h7 (nI_ge (a := q) (b := 96) (by omega) (by decide))
    · refine r_run okX9_listTargets 7 (cs := [vp_in (nI q) 97]) (σ' := (19, [some (.ref 42), some (.int (nI (offW m q))), some (.int (nI q)), some (.int 0), none, none, none], [], (SS b c), (upI I0 48 ((nI q).toNatClampNeg) (nI (offW m q))), J, 0, 0)) rfl ⟨(vin (by omega) (by decide)), trivial⟩ ?_
      simp only [cq]
      show Rj _ _ _ _ _ _ (19, [some (.ref 42), some (.int (nI (offW m q))), some (.int (nI q)), some (.int 0), none, none, none], [], (SS b c), (upI I0 48 q (nI (offW m q))), J, 0, 0)
      have h := lp_tg1 γ (I := I) (J := J) (m := m) (q := q) (b := b) (c := c) (Post := (fun rt S' I' J' => none = rt ∧ (SS b c) = S' ∧ kI [47, 48] I I' ∧ TgOK I' m ∧ J = J')) (by omega) (fun I2 k1 k2 k3 k4 k5 => ?_) 9 0 (upI I0 48 q (nI (offW m q))) (by omega) (kI_t h1 (kI_up (by decide))) h2 (Tg_48 (Nat.le_refl _) h3) (by simp [upI]) (fun j d hj => by simp [mvl] at hj)
      · exact h
      · refine r_run okX9_listTargets 2 (cs := []) (σ' := (4, [some (.ref 42), some (.int (nI (offW m (q + 1)))), some (.int ((nI q) + 1)), none, none, none, none], [], (SS b c), I2, J, 0, 0)) rfl trivial ?_
        rw [nI_eq1]
        refine ih (q + 1) I2 (by omega) k1 k2 (fun x hx => ?_)
        by_cases e : x = q
        · rw [e]; exact ⟨k4, k5⟩
        · exact k3 x (by omega)
theorem o_listTargets (γ : GE) {b c : Bool} {I : AI} {J : AJ} {m : Int32} (hm : I 42 11 = m) : Ct γ mX9_listTargets 0 0 0 [.ref 42] (SS b c) I J (fun rt S' I' J' => none = rt ∧ (SS b c) = S' ∧ kI [47, 48] I I' ∧ TgOK I' m ∧ J = J') := by
  refine ct_of okX9_listTargets (L := [some (.ref 42), none, none, none, none, none, none]) (Nat.le_of_ble_eq_true rfl) rfl ?_
  refine r_run okX9_listTargets 4 (cs := []) (σ' := (4, [some (.ref 42), some (.int 0), some (.int 0), none, none, none, none], [], (SS b c), I, J, 0, 0)) rfl trivial ?_
  exact lp_tg2 γ 96 0 I (by omega) kI_r hm (fun x hx => absurd hx (Nat.not_lt_zero x))
