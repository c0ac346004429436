/-! ===== what the reference answers rests on its own cells ===== -/
def eqM (I I' : AI) : Prop := ∀ a, 100 ≤ a → I' a = I a
theorem k_seesB {I I' : AI} (h : eqM I I') (r x : Nat) : seesB I' r x = seesB I r x := seesB_k (fun a q1 q2 => h a (by omega)) r x
theorem k_allsN {I I' : AI} (h : eqM I I') (k : Int32) (t n x : Nat) : allsN I' k t n x = allsN I k t n x := by
  have e : (fun i => !relB I' k t i || allB I' i x) = (fun i => !relB I k t i || allB I i x) := funext fun i => by
    unfold relB; rw [h 112 (by decide), h 115 (by decide), allB_k (fun a q1 q2 => h a (by omega))]
  unfold allsN; rw [e]
theorem k_mayB {I I' : AI} (h : eqM I I') (k : Int32) : ∀ t, mayB I' k t = mayB I k t
  | 0 => funext fun x => by unfold mayB; rw [h 100 (by decide), k_allsN h]
  | t + 1 => funext fun x => by unfold mayB; rw [h 100 (by decide), k_allsN h, k_mayB h k t]
theorem k_lastV {I I' : AI} (h : eqM I I') (k : Int32) : ∀ n, lastV I' k n = lastV I k n
  | 0 => rfl
  | n + 1 => by unfold lastV; rw [k_lastV h k n, h 115 (by decide), h 110 (by decide), h 112 (by decide)]
theorem k_aftB {I I' : AI} (h : eqM I I') (k : Int32) (l : Nat) : ∀ j, aftB I' k l j = aftB I k l j
  | 0 => funext fun x => by unfold aftB; rw [k_mayB h]
  | j + 1 => funext fun x => by unfold aftB; rw [k_mayB h, h 100 (by decide), k_aftB h k l j]
theorem k_aftR {I I' : AI} (h : eqM I I') (k : Int32) (t : Nat) : aftR I' k t = aftR I k t := funext fun x => by
  unfold aftR; rw [k_lastV h, h 100 (by decide), k_mayB h, k_aftB h]
theorem k_quaN {I I' : AI} (h : eqM I I') (k : Int32) : ∀ j s, quaN I' k j s = quaN I k j s
  | 0, _ => rfl
  | j + 1, s => by unfold quaN; rw [k_mayB h, k_quaN h k j]
theorem k_in0 {I I' : AI} (h : eqM I I') (z : Int32) (x : Nat) : in0 I' z x = in0 I z x := by unfold in0; rw [h 101 (by decide), h 102 (by decide)]
theorem k_wyN {I I' : AI} (h : eqM I I') (z : Int32) : ∀ k, wyN I' z k = wyN I z k
  | 0 => funext fun x => by unfold wyN; rw [k_in0 h]
  | k + 1 => funext fun x => by unfold wyN; rw [k_in0 h, k_wyN h z k, h 100 (by decide)]
theorem k_pthA {I I' : AI} (h : eqM I I') (z : Int32) (n : Nat) : pthA I' z n = pthA I z n := by unfold pthA pthV; rw [k_wyN h, h 100 (by decide), k_mayB h]
theorem k_pplN {I I' : AI} (h : eqM I I') (z : Int32) (n : Nat) : pplN I' z n = pplN I z n := pplN_k (h 101 (by decide)) (h 102 (by decide)) z n
theorem k_boxS {I I' : AI} (h : eqM I I') {P P' : Int32 → Int64} (hP : ∀ z, P' z = P z) (part : Int32) : ∀ j s best least, boxS I' P' part j s best least = boxS I P part j s best least
  | 0, _, _, _ => rfl
  | j + 1, s, best, least => by
    unfold boxS
    rw [k_boxS h hP part j, k_boxS h hP part j, k_pplN h, show bxSkip I' s best least = bxSkip I s best least by unfold bxSkip; rw [k_pplN h], show bxOK P' part s = bxOK P part s by unfold bxOK; rw [hP, hP]]
theorem k_seersV {I I' : AI} (h : eqM I I') (x : Nat) : seersV I' x = seersV I x := by unfold seersV; rw [k_seesB h, k_seesB h, k_seesB h]
theorem k_gnB {I I' : AI} (h : eqM I I') (s : Nat) : gnB I' s = gnB I s := funext fun x => by
  unfold gnB watN; rw [k_seersV h, h 141 (by decide), h 142 (by decide)]
theorem k_gnV {I I' : AI} (h : eqM I I') (s : Nat) : ∀ n, gnV I' s n = gnV I s n
  | 0 => rfl
  | n + 1 => by unfold gnV; rw [k_gnV h s n, k_gnB h, h 102 (by decide)]
theorem k_psS {I I' : AI} (h : eqM I I') (k : Int32) : ∀ j s q v m, psS I' k j s q v m = psS I k j s q v m
  | 0, _, _, _, _ => rfl
  | j + 1, s, q, v, m => by
    unfold psS
    rw [k_psS h k j, k_psS h k j, k_gnV h, k_gnB h, show pkB I' k s = pkB I k s by unfold pkB; rw [allP_k (h 140 (by decide))]]
theorem k_askB {I I' : AI} (h : eqM I I') (t k : Int32) : askB I' t k = askB I t k := by unfold askB; rw [h 100 (by decide)]
theorem k_mayV {I I' : AI} (h : eqM I I') (t k x : Int32) : mayV I' t k x = mayV I t k x := by unfold mayV; rw [k_askB h, k_mayB h]
theorem k_cntV {I I' : AI} (h : eqM I I') (t k w : Int32) : cntV I' t k w = cntV I t k w := by unfold cntV; rw [k_askB h, k_mayB h, k_aftR h]
theorem k_quaV {I I' : AI} (h : eqM I I') (k : Int32) : quaV I' k = quaV I k := by unfold quaV; rw [k_quaN h, h 100 (by decide)]
theorem k_pthR {I I' : AI} (h : eqM I I') (n : Int32) : pthR I' n = pthR I n := by unfold pthR; rw [k_pthA h]
theorem k_misR {I I' : AI} (h : eqM I I') (n z : Int32) : misR I' n z = misR I n z := by unfold misR; rw [k_pthA h, k_pthA h]
theorem k_boxV {I I' : AI} (h : eqM I I') (n part w : Int32) : boxV I' n part w = boxV I n part w := by
  unfold boxV; rw [k_boxS h (fun z => k_pthA h z (nv n))]
theorem k_pstV {I I' : AI} (h : eqM I I') (k w : Int32) : pstV I' k w = pstV I k w := by unfold pstV; rw [k_psS h]
theorem k_thr {I I' : AI} (h : eqM I I') (y t : Int32) : thr I' y t = thr I y t := by unfold thr; rw [h 100 (by decide)]; exact thrN_e (h 127 (by decide)) (h 128 (by decide)) (h 129 (by decide)) y t _
theorem k_takV {I I' : AI} (h : eqM I I') (y : Int32) (q : Nat) : takV I' y q = takV I y q := by
  have e : ∀ q, tkB I' y q = tkB I y q := fun q => funext fun i => by unfold tkB tkC tkK; rw [h 110 (by decide), h 101 (by decide), h 113 (by decide), h 112 (by decide), h 100 (by decide)]
  unfold takV
  split <;> first | rfl | (simp only [e, k_pplN h, k_thr h, h 100 (by decide), h 129 (by decide), h 133 (by decide), h 136 (by decide), h 137 (by decide)])
theorem k_ansV {I I' : AI} (h : eqM I I') (F : Nat → Nat → Bool) (y : Int32) : ansV I' F y = ansV I F y := funext fun q => by
  unfold ansV; rw [k_takV h, h 100 (by decide), sooN_e (h 101 (by decide)) (by rw [h 100 (by decide)]), show nrN I' (F (nv (I 100 5))) (nv y) 96 = nrN I (F (nv (I 100 5))) (nv y) 96 by unfold nrN cyB; rw [h 101 (by decide)]]
theorem k_mayF {I I' : AI} (h : eqM I I') : mayB I' (I' 100 5) = mayB I (I 100 5) := by rw [h 100 (by decide)]; exact funext fun t => k_mayB h _ t
theorem k_asV {I I' : AI} (h : eqM I I') (ls : List Ln) (y w : Int32) : asV I' (mayB I' (I' 100 5)) ls y w = asV I (mayB I (I 100 5)) ls y w := by
  unfold asV; rw [k_mayF h, k_ansV h]
theorem k_mnV {I I' : AI} (h : eqM I I') (n : Int32) : mnV I' n = mnV I n := by unfold mnV mnB; rw [h 100 (by decide)]
theorem k_hasR {I I' : AI} (h : eqM I I') (v : Int32) : hasR I' v = hasR I v := by unfold hasR; rw [h 105 (by decide)]
theorem k_telB {I I' : AI} (h : eqM I I') (t : Int32) : telB I' t = telB I t := by unfold telB; rw [h 100 (by decide)]
theorem k_seeB {I I' : AI} (h : eqM I I') (r t x : Int32) : seeB I' r t x = seeB I r t x := by unfold seeB; rw [k_hasR h, k_telB h]
theorem k_barB {I I' : AI} (h : eqM I I') (r t : Int32) : barB I' r t = barB I r t := by unfold barB; rw [k_hasR h, k_telB h]
theorem k_worB {I I' : AI} (h : eqM I I') (t x d : Int32) : worB I' t x d = worB I t x d := by unfold worB; rw [k_telB h]
theorem k_bliB {I I' : AI} (h : eqM I I') (r x : Int32) (z : Bool) : bliB I' r x z = bliB I r x z := by unfold bliB; rw [k_hasR h, h 109 (by decide)]
theorem k_feeB {I I' : AI} (h : eqM I I') : feeB I' = feeB I := by unfold feeB; rw [h 100 (by decide)]
theorem k_feeV {I I' : AI} (h : eqM I I') : feeV I' = feeV I := by unfold feeV; rw [k_feeB h, h 100 (by decide)]
theorem k_endB {I I' : AI} (h : eqM I I') (n : Int32) : endB I' n = endB I n := by unfold endB; rw [h 100 (by decide)]
theorem k_waV {I I' : AI} (h : eqM I I') (y m : Int32) : waV I' y m = waV I y m := by unfold waV begV; rw [h 100 (by decide), k_thr h]
theorem k_liB {I I' : AI} (h : eqM I I') (y : Int32) : liB I' y = liB I y := by unfold liB lifB; rw [h 100 (by decide), k_thr h]
theorem k_truB {I I' : AI} (h : eqM I I') (t x : Int32) : truB I' t x = truB I t x := by unfold truB; rw [h 100 (by decide)]
theorem kI_eqM {P : List Nat} {I I' : AI} (hk : kI P I I') (hP : ∀ a, a ∈ P → a < 100) : eqM I I' := fun a ha => hk a (fun z => by have := hP a z; omega)
/-! ===== what holds between calls; a pair of calls ===== -/
def Inv (I : AI) (J : AJ) (b : Bool) (ls : List Ln) : Prop := OAll I J b ls ∧ MAll I ls ∧ MEar I
theorem Inv_m {I I' : AI} {J J' : AJ} {b : Bool} {ls : List Ln} (h : ∀ a, a ≤ 142 → a ≠ 116 → a ≠ 117 → (a < 134 ∨ 138 < a) → I' a = I a) (hJ : ∀ a, a < 100 → J' a = J a) (hV : Inv I J b ls) : Inv I' J' b ls :=
  ⟨OAll_m h hJ hV.1, MAll_k (fun a q1 q2 q3 q4 q5 => h a q2 q3 q4 q5) hV.2.1, fun k hk => by rw [h 133 (by decide) (by decide) (by decide) (by decide)]; exact hV.2.2 k hk⟩
theorem Inv_q {I I' : AI} {J J' : AJ} {b : Bool} {ls : List Ln} (h : ∀ a, a ≤ 142 → a ≠ 37 → a ≠ 42 → a ≠ 47 → a ≠ 48 → a ≠ 51 → a ≠ 65 → a ≠ 76 → a ≠ 86 → a ≠ 94 → I' a = I a) (h65 : I' 65 3 = I 65 3) (hJ : ∀ a, a < 38 ∨ a = 58 ∨ a = 59 ∨ (68 ≤ a ∧ a ≤ 75) → J' a = J a) (hH : OHea I' J') (hW : OWal I') (hV : Inv I J b ls) : Inv I' J' b ls :=
  ⟨OAll_q h h65 hJ hH hW hV.1, MAll_k (fun a q1 q2 q3 q4 q5 => h a q2 (by omega) (by omega) (by omega) (by omega) (by omega) (by omega) (by omega) (by omega) (by omega)) hV.2.1, fun k hk => by rw [h 133 (by decide) (by decide) (by decide) (by decide) (by decide) (by decide) (by decide) (by decide) (by decide) (by decide)]; exact hV.2.2 k hk⟩
def PairI (γ : GE) (mo mm : MI) (d0 d1 : Nat) (as : List Value) (b c : Bool) (I : AI) (J : AJ) : Prop := ∃ (v : Int32) (Mid : Bool → Bool → AI → AJ → Prop), Ct γ mo d0 0 0 (.ref 0 :: as) (SS b c) I J (fun r S' I' J' => some (.int v) = r ∧ ∃ b1 c1, SS b1 c1 = S' ∧ Mid b1 c1 I' J') ∧ ∀ b1 c1 I' J', Mid b1 c1 I' J' → Ct γ mm d1 0 0 (.ref 100 :: as) (SS b1 c1) I' J' (fun r S' I'' J'' => some (.int v) = r ∧ ∃ b2 c2, SS b2 c2 = S' ∧ ∃ ls, Inv I'' J'' b2 ls)
def PairJ (γ : GE) (mo mm : MI) (d0 d1 : Nat) (as : List Value) (b c : Bool) (I : AI) (J : AJ) : Prop := ∃ (v : Int64) (Mid : Bool → Bool → AI → AJ → Prop), Ct γ mo d0 0 0 (.ref 0 :: as) (SS b c) I J (fun r S' I' J' => some (.long v) = r ∧ ∃ b1 c1, SS b1 c1 = S' ∧ Mid b1 c1 I' J') ∧ ∀ b1 c1 I' J', Mid b1 c1 I' J' → Ct γ mm d1 0 0 (.ref 100 :: as) (SS b1 c1) I' J' (fun r S' I'' J'' => some (.long v) = r ∧ ∃ b2 c2, SS b2 c2 = S' ∧ ∃ ls, Inv I'' J'' b2 ls)
def PairV (γ : GE) (mo mm : MI) (d0 d1 : Nat) (as : List Value) (b c : Bool) (I : AI) (J : AJ) : Prop := ∃ (Mid : Bool → Bool → AI → AJ → Prop), Ct γ mo d0 0 0 (.ref 0 :: as) (SS b c) I J (fun r S' I' J' => none = r ∧ ∃ b1 c1, SS b1 c1 = S' ∧ Mid b1 c1 I' J') ∧ ∀ b1 c1 I' J', Mid b1 c1 I' J' → Ct γ mm d1 0 0 (.ref 100 :: as) (SS b1 c1) I' J' (fun r S' I'' J'' => none = r ∧ ∃ b2 c2, SS b2 c2 = S' ∧ ∃ ls, Inv I'' J'' b2 ls)
theorem MBase_of {I : AI} {ls : List Ln} (h : MAll I ls) : MBase I := ⟨h.1, h.2.2.1, h.2.2.2.1, h.2.2.2.2.2.1, h.2.2.2.2.1⟩
theorem HBs_of {I : AI} {J : AJ} {b : Bool} {ls : List Ln} (h : Inv I J b ls) : HBs I J := ⟨h.1.2.2.1, h.2.1.2.2.2.1, h.2.1.2.2.1, h.1.2.1, h.2.1.2.2.2.2.2.2.1.1, h.2.1.2.2.2.2.2.1⟩
