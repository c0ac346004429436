/-! ===== the reference: asks, minutes ===== -/
def scr (a : Nat) : Bool := a == 116 || a == 134 || a == 135 || a == 136 || a == 137 || a == 138
/-- a state with other scratch -/
def mX (I G : AI) : AI := fun a => bif scr a then G a else I a
theorem mX_of {I I' : AI} (h : ∀ a, scr a = false → I' a = I a) : I' = mX I I' := by
  funext a; unfold mX; cases e : scr a
  · exact h a e
  · rfl
theorem mX_self {I : AI} : mX I I = I := by funext a; unfold mX; cases scr a <;> rfl
theorem mX_f {I G : AI} {a : Nat} (h : scr a = false) : mX I G a = I a := by unfold mX; rw [h]; rfl
theorem mX_t {I G : AI} {a : Nat} (h : scr a = true) : mX I G a = G a := by unfold mX; rw [h]; rfl
theorem mX_2 {I G G' : AI} : mX (mX I G) G' = mX I G' := by funext a; unfold mX; cases scr a <;> rfl
theorem mX_u {I G : AI} {a k : Nat} {v : Int32} (h : scr a = false) : upI (mX I G) a k v = mX (upI I a k v) G := by
  funext x b
  unfold upI mX
  by_cases e : x = a
  · subst e; rw [h]; rfl
  · cases scr x <;> simp [e]
theorem mX_cp {I G : AI} {w k : Nat} : cpS (mX I G) w k = mX (cpS I w k) G := by
  funext x b
  by_cases e : x = 132
  · subst e; rfl
  · rw [cpS_ne e]; unfold mX; cases scr x
    · simp [cpS_ne e]
    · rfl
theorem thr_mX {I G : AI} (y t : Int32) : thr (mX I G) y t = thr I y t := thrN_e (I := I) (I' := mX I G) rfl rfl rfl y t _
theorem lif_mX {I G : AI} (y : Int32) : lifN (mX I G) y = mX (lifN I y) G := by
  unfold lifN
  rw [show thr (mX I G) y (mX I G 100 5) = thr I y (I 100 5) from thr_mX y _]
  cases thr I y (I 100 5) with
  | none => rfl
  | some w => exact mX_u rfl
theorem beg_mX {I G : AI} (y m : Int32) : begN (mX I G) y m = mX (begN I y m) G := by
  unfold begN
  rw [show thr (mX I G) y (mX I G 100 5) = thr I y (I 100 5) from thr_mX y _]
  cases thr I y (I 100 5) with
  | some w =>
    show (if I 129 w < I 100 5 + m then upI (mX I G) 129 w (I 100 5 + m) else mX I G) = mX (if I 129 w < I 100 5 + m then upI I 129 w (I 100 5 + m) else I) G
    split
    · exact mX_u rfl
    · rfl
  | none =>
    show (if I 100 45 = 200 then mX I G else upI (cpS (begX (mX I G) y m (nv (I 100 45))) (nv (I 100 45)) 96) 100 45 (I 100 45 + 1)) = mX (if I 100 45 = 200 then I else upI (cpS (begX I y m (nv (I 100 45))) (nv (I 100 45)) 96) 100 45 (I 100 45 + 1)) G
    split
    · rfl
    · rw [show begX (mX I G) y m (nv (I 100 45)) = mX (begX I y m (nv (I 100 45))) G by
        unfold begX; rw [mX_u rfl, mX_u rfl, mX_u rfl, mX_u rfl, mX_u rfl]; rfl, mX_cp, mX_u rfl]
theorem rg_mono {n m : Nat} {x : Int32} (h : rg n x) (hm : n ≤ m) : rg m x := by obtain ⟨k, h1, h2⟩ := h; exact ⟨k, by omega, h2⟩
theorem MWar_lif {I : AI} (h : MWar I) (y : Int32) : MWar (lifN I y) := by
  unfold lifN
  cases e : thr I y (I 100 5) with
  | none => exact h
  | some w =>
    refine ⟨h.1, h.2.1, h.2.2.1, fun v hv => ?_⟩
    have hv2 : v < nv (I 100 45) := hv
    obtain ⟨h1, h2, h3, h4, h5⟩ := h.2.2.2 v hv2
    refine ⟨h1, h2, ?_, h4, h5⟩
    show rg 800 (upI I 129 w (I 100 5) 129 v)
    unfold upI
    rw [if_pos rfl]
    split
    · exact rg_mono h.2.1 (by decide)
    · exact h3
theorem rg_add {n m : Nat} {x y : Int32} (hx : rg n x) (hy : rg m y) : rg (n + m) (x + y) := by
  obtain ⟨a, ha, rfl⟩ := hx; obtain ⟨c, hc, rfl⟩ := hy
  exact ⟨a + c, by omega, nI_ad a c⟩
theorem MWar_beg {I : AI} (h : MWar I) (y m : Int32) (hy : ctyB y = true) (hm : rg 61 m) : MWar (begN I y m) := by
  have hnm : rg 800 (I 100 5 + m) := rg_mono (rg_add h.2.1 hm) (by decide)
  unfold begN
  cases e : thr I y (I 100 5) with
  | some w =>
    show MWar (if I 129 w < I 100 5 + m then upI I 129 w (I 100 5 + m) else I)
    split
    · refine ⟨h.1, h.2.1, h.2.2.1, fun v hv => ?_⟩
      have hv2 : v < nv (I 100 45) := hv
      obtain ⟨h1, h2, h3, h4, h5⟩ := h.2.2.2 v hv2
      refine ⟨h1, h2, ?_, h4, h5⟩
      show rg 800 (upI I 129 w (I 100 5 + m) 129 v)
      unfold upI
      rw [if_pos rfl]
      split
      · exact hnm
      · exact h3
    · exact h
  | none =>
    show MWar (if I 100 45 = 200 then I else upI (cpS (begX I y m (nv (I 100 45))) (nv (I 100 45)) 96) 100 45 (I 100 45 + 1))
    split
    · exact h
    · rename_i h200
      obtain ⟨n, hn, en⟩ := h.1
      have hn2 : n < 200 := by
        rcases Nat.lt_or_ge n 200 with q | q
        · exact q
        · exact absurd (by rw [en, show n = 200 by omega]; rfl) h200
      obtain ⟨yk, hyk, rfl⟩ := cty_nat hy
      refine ⟨?_, h.2.1, h.2.2.1, fun v hv => ?_⟩
      · show rg 201 (I 100 45 + 1); rw [en, ← nI_succ]; exact ⟨n + 1, by omega, rfl⟩
      · have hv2 : v < nv (I 100 45 + 1) := hv
        rw [en, ← nI_succ, nv_nI (by omega)] at hv2
        rw [en, nv_nI (by omega)]
        show rg 8 (if v = n then nI yk else I 127 v) ∧ rg 720 (if v = n then I 100 5 else I 128 v) ∧ rg 800 (if v = n then I 100 5 + m else I 129 v) ∧ rg 101 (if v = n then I 133 (nv (nI yk)) else I 130 v) ∧ rg 3 (if v = n then 0 else I 131 v)
        by_cases hvn : v = n
        · simp only [hvn, if_true]
          exact ⟨⟨yk, hyk, rfl⟩, h.2.1, hnm, by rw [nv_nI (by omega)]; exact h.2.2.1 yk hyk, ⟨0, by decide, rfl⟩⟩
        · simp only [hvn, if_false]
          exact h.2.2.2 v (by rw [en, nv_nI (by omega)]; omega)
/-- the cells that begin and lifts leave alone -/
def warC (a : Nat) : Bool := a == 127 || a == 128 || a == 129 || a == 130 || a == 131 || a == 132
theorem lif_fr {I : AI} (y : Int32) {a k : Nat} (h : warC a = false) : lifN I y a k = I a k := by
  unfold lifN
  cases thr I y (I 100 5) with
  | none => rfl
  | some w => show upI I 129 w _ a k = _; unfold upI; rw [if_neg (fun q => absurd h (by rw [q]; decide))]
theorem beg_fr {I : AI} (y m : Int32) {a k : Nat} (h : warC a = false) (h1 : a = 100 → ¬ k = 45) : begN I y m a k = I a k := by
  have e : ∀ x, warC x = true → ¬ a = x := fun x hx q => absurd h (by rw [q, hx]; decide)
  unfold begN
  cases thr I y (I 100 5) with
  | some w => show (if I 129 w < I 100 5 + m then upI I 129 w (I 100 5 + m) else I) a k = _; split; (· unfold upI; rw [if_neg (e 129 rfl)]); rfl
  | none =>
    show (if I 100 45 = 200 then I else upI (cpS (begX I y m (nv (I 100 45))) (nv (I 100 45)) 96) 100 45 (I 100 45 + 1)) a k = _
    split
    · rfl
    · unfold upI
      by_cases q : a = 100
      · rw [if_pos q, if_neg (h1 q)]
        rw [cpS_ne (e 132 rfl)]; unfold begX upI
        rw [if_neg (e 131 rfl), if_neg (e 130 rfl), if_neg (e 129 rfl), if_neg (e 128 rfl), if_neg (e 127 rfl)]
      · rw [if_neg q]
        rw [cpS_ne (e 132 rfl)]; unfold begX upI
        rw [if_neg (e 131 rfl), if_neg (e 130 rfl), if_neg (e 129 rfl), if_neg (e 128 rfl), if_neg (e 127 rfl)]
/-- the answers of a county -/
def ansV (I : AI) (F : Nat → Nat → Bool) (y : Int32) (q : Nat) : Int32 := if q = 3 then nI (nrN I (F (nv (I 100 5))) (nv y) 96) else if q = 4 then sooN I (F (nv (I 100 5))) (nv y) 13 else takV I y q
theorem sooN_e {I I' : AI} (h1 : I' 101 = I 101) (h2 : I' 100 6 = I 100 6) (f : Nat → Bool) (k : Nat) : ∀ n, sooN I' f k n = sooN I f k n
  | 0 => rfl
  | n + 1 => by
    unfold sooN
    rw [sooN_e h1 h2 f k n, h2, show hitN I' (rchN (I 100 6) f n) k 96 = hitN I (rchN (I 100 6) f n) k 96 by unfold hitN cyB; rw [h1]]
theorem ans_tak {I G : AI} {F : Nat → Nat → Bool} {y : Int32} (hy : ctyB y = true) (hG : ∀ k, k < 8 → G 136 k = nI (nrN I (F (nv (I 100 5))) k 96) ∧ G 137 k = sooN I (F (nv (I 100 5))) k 13) {q : Nat} (hq : q < 9) : takV (mX I G) y q = ansV I F y q := by
  obtain ⟨k, hk, rfl⟩ := cty_nat hy
  have en : ∀ q, ¬ q = 3 → ¬ q = 4 → ansV I F (nI k) q = takV I (nI k) q := fun q h3 h4 => by unfold ansV; rw [if_neg h3, if_neg h4]
  rcases (show q = 0 ∨ q = 1 ∨ q = 2 ∨ q = 3 ∨ q = 4 ∨ q = 5 ∨ q = 6 ∨ q = 7 ∨ q = 8 by omega) with rfl | rfl | rfl | rfl | rfl | rfl | rfl | rfl | rfl
  · rw [en 0 (by decide) (by decide)]; rfl
  · rw [en 1 (by decide) (by decide)]; rfl
  · rw [en 2 (by decide) (by decide)]; rfl
  · show G 136 (nv (nI k)) = nI (nrN I (F (nv (I 100 5))) (nv (nI k)) 96); rw [nv_nI (by omega)]; exact (hG k hk).1
  · show G 137 (nv (nI k)) = _; unfold ansV; rw [if_neg (by decide), if_pos rfl, nv_nI (by omega)]; exact (hG k hk).2
  · rw [en 5 (by decide) (by decide), takV, takV]; exact pplN_e (I := I) (I' := mX I G) rfl rfl _ 96
  · rw [en 6 (by decide) (by decide), takV, takV]
    rw [show thr (mX I G) (nI k) (mX I G 100 5) = thr I (nI k) (I 100 5) from thr_mX _ _]
    rfl
  · rw [en 7 (by decide) (by decide)]; rfl
  · rw [en 8 (by decide) (by decide)]; rfl
theorem c_findMaybeX (γ : GE) {b c : Bool} {I : AI} {J : AJ} {T : Int32} (k : Int32) (hI : MBase I) (h : inB T 0 719 = true) : Ct γ mX12_findMaybe 3 0 0 [.ref 100, .int T, .int k] (SS b c) I J (fun r S' I' J' => none = r ∧ (SS b c) = S' ∧ (∃ G, I' = mX I G ∧ ∀ t x, t ≤ nv T → x < 96 → G 116 (96 * t + x) = bi (mayB I k t x)) ∧ J = J') := by
  refine ct_post (fun r S' I' J' hp => ?_) (c_findMaybe γ k hI.2.1 hI.2.2.1 hI.2.2.2.1 h)
  obtain ⟨rfl, rfl, rfl, rfl⟩ := hp
  exact ⟨rfl, rfl, ⟨_, mX_of (fun a ha => memM_ne (fun q => absurd ha (by rw [q]; decide))), fun t x ht hx => memM_at (by omega) hx⟩, rfl⟩
theorem c_findNearX (γ : GE) {b c : Bool} {I : AI} {J : AJ} {g : AI} (F : Nat → Nat → Bool) (t : Nat) (ht : t < 720) (et : I 100 5 = nI t) (hm : ∀ x, x < 96 → g 116 (96 * t + x) = bi (F t x)) (hL : MLand I) : Ct γ mX12_findNear 2 0 0 [.ref 100] (SS b c) (mX I g) J (fun r S' I' J' => none = r ∧ (SS b c) = S' ∧ (∃ G, I' = mX I G ∧ G 116 = g 116 ∧ ∀ k, k < 8 → G 136 k = nI (nrN I (F (nv (I 100 5))) k 96) ∧ G 137 k = sooN I (F (nv (I 100 5))) k 13) ∧ J = J') := by
  refine ct_post (fun r S' I' J' hp => ?_) (c_findNear γ (I := mX I g) t (F t) ht et hm hL)
  obtain ⟨rfl, rfl, hn, rfl⟩ := hp
  refine ⟨rfl, rfl, ⟨I', mX_of (fun a ha => ?_), ?_, ?_⟩, rfl⟩
  · rw [hn.1 a (fun q => absurd ha (by rw [q]; decide)) (fun q => absurd ha (by rw [q]; decide)) (fun q => absurd ha (by rw [q]; decide)), mX_f ha]
  · rw [hn.1 116 (by decide) (by decide) (by decide)]; rfl
  · rw [et, nv_nI (by omega)]
    intro k hk
    exact ⟨(hn.2 k hk).1, (hn.2 k hk).2.trans (sooN_e rfl rfl (F t) k 13)⟩
theorem c_takesX (γ : GE) {b c : Bool} {I : AI} {J : AJ} {g : AI} (F : Nat → Nat → Bool) (hT : MTel I) (hW : rg 201 (I 100 45)) {y : Int32} (hy : ctyB y = true) (hG : ∀ k, k < 8 → g 136 k = nI (nrN I (F (nv (I 100 5))) k 96) ∧ g 137 k = sooN I (F (nv (I 100 5))) k 13) : Ct γ mX12_takes 1 0 0 [.ref 100, .int y] (SS b c) (mX I g) J (fun r S' I' J' => none = r ∧ (SS b c) = S' ∧ (∃ G, I' = mX I G ∧ G 116 = g 116 ∧ G 136 = g 136 ∧ G 137 = g 137 ∧ ∀ q, q < 9 → G 134 q = ansV I F y q) ∧ J = J') := by
  refine ct_post (fun r S' I' J' hp => ?_) (c_takes γ (I := mX I g) hT hW y hy)
  obtain ⟨rfl, rfl, ⟨g1, rfl, hg1⟩, rfl⟩ := hp
  refine ⟨rfl, rfl, ⟨_, mX_of (fun a ha => ?_), rfl, rfl, rfl, fun q hq => ?_⟩, rfl⟩
  · rw [mH_ne (fun q => absurd ha (by rw [q]; decide)), mX_f ha]
  · show g1 q = _; rw [hg1 q hq, ans_tak hy hG hq]
theorem MRul_k {I I' : AI} {ls : List Ln} (h0 : I' 100 29 = I 100 29) (h1 : I' 120 = I 120) (h2 : I' 121 = I 121) (h3 : I' 122 = I 122) (h4 : I' 123 = I 123) (h5 : I' 124 = I 124) (h6 : I' 125 = I 125) (h : MRul I ls) : MRul I' ls := by
  refine ⟨h.1, by rw [h0]; exact h.2.1, fun k q hq => ⟨?_, (h.2.2 k q hq).2⟩⟩
  obtain ⟨f, w, e, a1, a2, a3, a4, a5, a6, a7, a8, a9⟩ := (h.2.2 k q hq).1
  exact ⟨f, w, e, a1, a2, a3, by rw [h1]; exact a4, by rw [h2]; exact a5, by rw [h3]; exact a6, by rw [h4]; exact a7, cdA_k h5 h6 a8, cdA_k h5 h6 a9⟩
theorem MRul_ok {I : AI} {ls : List Ln} (h : MRul I ls) : ∀ q ∈ ls, lnOK q := fun q hq => by
  obtain ⟨k, hk⟩ := List.getElem?_of_mem hq
  exact (h.2.2 k q hk).2
theorem c_lineOfX (γ : GE) {b c : Bool} {I : AI} {J : AJ} {g : AI} (ls : List Ln) (hR : MRul I ls) {h : Nat → Int32} (hh : ∀ q, q < 9 → g 134 q = h q) : Ct γ mX12_lineOf 2 0 0 [.ref 100] (SS b c) (mX I g) J (fun r S' I' J' => some (.int (bsI (lnN h ls 0))) = r ∧ (SS b c) = S' ∧ (∃ G, I' = mX I G ∧ ∀ a, a ≠ 135 → G a = g a) ∧ J = J') := by
  refine ct_post (fun r S' I' J' hp => ?_) (c_lineOf γ (I := mX I g) ls (MRul_k (I := I) (I' := mX I g) rfl rfl rfl rfl rfl rfl rfl hR))
  obtain ⟨rfl, rfl, ⟨g1, rfl⟩, rfl⟩ := hp
  refine ⟨?_, rfl, ⟨fun a => if a = 135 then g1 else g a, ?_, fun a ha => by simp [ha]⟩, rfl⟩
  · rw [show lnN (mX I g 134) ls 0 = lnN h ls 0 from lnN_e hh (MRul_ok hR)]
  · funext a; unfold mKS mX
    by_cases e : a = 135
    · subst e; rfl
    · simp only [e, if_false]
theorem c_valueOfX (γ : GE) {b c : Bool} {I : AI} {J : AJ} {g : AI} (ls : List Ln) (hR : MRul I ls) {h : Nat → Int32} (hh : ∀ q, q < 9 → g 134 q = h q) {k : Nat} {q : Ln} (hq : ls[k]? = some q) (h0 : q.1 = 0) : Ct γ mX12_valueOf 1 0 0 [.ref 100, .int (I 121 k), .int (I 122 k)] (SS b c) (mX I g) J (fun r S' I' J' => some (.int (valC h q.2.1)) = r ∧ (SS b c) = S' ∧ (∃ G, I' = mX I G ∧ ∀ a, a ≠ 135 → G a = g a) ∧ J = J') := by
  obtain ⟨⟨f, w, e, a1, a2, a3, a4, a5, a6, a7, a8, a9⟩, hok⟩ := hR.2.2 k q hq
  have ht := hok.2.1 h0
  rw [a5, a6]
  refine ct_post (fun r S' I' J' hp => ?_) (c_valueOf γ (I := mX I g) (valC (g 134) q.2.1) f w (by omega) (flt q.2.1) a1 (cdA_k (I := I) (I' := mX I g) rfl rfl a8) (tyCd_val ht).2)
  obtain ⟨rfl, rfl, ⟨g1, rfl⟩, rfl⟩ := hp
  refine ⟨?_, rfl, ⟨fun a => if a = 135 then g1 else g a, ?_, fun a ha => by simp [ha]⟩, rfl⟩
  · rw [valC_e hh ht]
  · funext a; unfold mKS mX
    by_cases e : a = 135
    · subst e; rfl
    · simp only [e, if_false]
theorem c_liftsX (γ : GE) {b c : Bool} {I : AI} {J : AJ} {g : AI} (hI : rg 201 (I 100 45)) (y : Int32) : Ct γ mX12_lifts 1 0 0 [.ref 100, .int y] (SS b c) (mX I g) J (rI (bi (lifB (mX I g) y)) (SS b c) (mX (lifN I y) g) J) := by
  rw [← lif_mX]; exact c_lifts γ (I := mX I g) hI y
theorem c_beginX (γ : GE) {b c : Bool} {I : AI} {J : AJ} {g : AI} (hI : MWar I) (hL : MLand I) (y m : Int32) (hy : ctyB y = true) : Ct γ mX12_begin 1 0 0 [.ref 100, .int y, .int m] (SS b c) (mX I g) J (rI (begV (mX I g) y) (SS b c) (mX (begN I y m) g) J) := by
  rw [← beg_mX]; exact c_begin γ (I := mX I g) hI hL y m hy
def asV (I : AI) (F : Nat → Nat → Bool) (ls : List Ln) (y w : Int32) : Int32 := if ctyB y && inB w 0 9 then (if w < 9 then ansV I F y (nv w) else bsI (lnN (ansV I F y) ls 0)) else -2
theorem w9 {w : Int32} (h : inB w 0 9 = true) (h9 : ¬ (9 : Int32) ≤ w) : ∃ q, q < 9 ∧ w = nI q := by
  obtain ⟨q, hq, rfl⟩ := inB_rg (n := 9) (by decide) h
  exact ⟨q, Nat.lt_of_not_le fun z => h9 (nI_le z (by omega)), rfl⟩
theorem c_Masks (γ : GE) {b c : Bool} {I : AI} {J : AJ} (hI : MBase I) (hL : MLand I) (hW : rg 201 (I 100 45)) (ls : List Ln) (hR : MRul I ls) (y w : Int32) : Ct γ mX12_asks 4 0 0 [.ref 100, .int y, .int w] (SS b c) I J ((fun r S' I' J' => some (.int (asV I (mayB I (I 100 5)) ls y w)) = r ∧ (SS b c) = S' ∧ (∃ G, I' = mX I G) ∧ J = J')) := by
  obtain ⟨t, ht, et⟩ := hI.2.2.2.2
  have hT := hI.1
  have ht0 := told0 hT
  have ht := ht
  have hnow : inB (I 100 5) 0 719 = true := by rw [et]; exact inB_t.mpr ⟨nI_le (a := 0) (by omega) (by omega), nI_le (b := 719) (by omega) (by omega)⟩
  refine ct_of okX12_asks (L := [some (.ref 100), some (.int y), some (.int w)]) (Nat.le_of_ble_eq_true rfl) rfl ?_
  refine r_run okX12_asks 5 (cs := []) (σ' := (7, [some (.ref 100), some (.int y), some (.int w)], [.int y, .ref 100], (SS b c), (upI I 100 0 0), J, 0, 0)) rfl trivial ?_
  simp only [ht0]
  show Rj _ _ _ _ _ _ (7, [some (.ref 100), some (.int y), some (.int w)], [.int y, .ref 100], (SS b c), I, J, 0, 0)
  refine r_callV okX12_asks okX12_isCounty [.int y] [] 100 rfl rfl rfl kkX12_isCounty rfl rfl (by decide) rfl rfl rfl (by decide) ⟨Nat.le_refl _, Nat.le_refl _⟩ (Nat.le_of_ble_eq_true rfl) (c_isCounty γ y) (fun v1 S1 I1 J1 hp => ?_)
  obtain ⟨rfl, rfl, rfl, rfl⟩ := hp
  show Rj _ _ _ _ _ _ (10, [some (.ref 100), some (.int y), some (.int w)], [.int (bi (ctyB y))], (SS b c), I, J, 0, 0)
  refine r_ifc okX12_asks rfl (fun (h10 : (bi (ctyB y)) = (0 : Int32)) => ?_) (fun (h10 : ¬ (bi (ctyB y)) = (0 : Int32)) => ?_)
  · have h10s := bi_0.mp h10
    refine r_run okX12_asks 1 (cs := []) (σ' := (26, [some (.ref 100), some (.int y), some (.int w)], [.int (-2)], (SS b c), I, J, 0, 0)) rfl trivial ?_
    refine r_iret okX12_asks rfl rfl rfl (Nat.le_refl _) (Nat.le_refl _) ?_
    refine ⟨?_, rfl, ⟨I, mX_self.symm⟩, rfl⟩
    simp [asV, *]
  · have h10s := bi_n0.mp h10
    refine r_run okX12_asks 4 (cs := []) (σ' := (18, [some (.ref 100), some (.int y), some (.int w)], [.int 9, .int 0, .int w, .ref 100], (SS b c), I, J, 0, 0)) rfl trivial ?_
    refine r_callV okX12_asks okX12_isIn [.int w, .int 0, .int 9] [] 100 rfl rfl rfl kkX12_isIn rfl rfl (by decide) rfl rfl rfl (by decide) ⟨Nat.le_refl _, Nat.le_refl _⟩ (Nat.le_of_ble_eq_true rfl) (c_isIn γ w 0 9) (fun v1 S1 I1 J1 hp => ?_)
    obtain ⟨rfl, rfl, rfl, rfl⟩ := hp
    show Rj _ _ _ _ _ _ (21, [some (.ref 100), some (.int y), some (.int w)], [.int (bi (inB w 0 9))], (SS b c), I, J, 0, 0)
    refine r_ifc okX12_asks rfl (fun (h21 : ¬ (bi (inB w 0 9)) = (0 : Int32)) => ?_) (fun h210 => ?_)
    · have h21s := bi_n0.mp h21
      refine r_run okX12_asks 5 (cs := []) (σ' := (36, [some (.ref 100), some (.int y), some (.int w)], [.int (I 100 5), .int (I 100 5), .ref 100], (SS b c), I, J, 0, 0)) rfl trivial ?_
      refine r_callV okX12_asks okX12_findMaybe [.int (I 100 5), .int (I 100 5)] [] 100 rfl rfl rfl kkX12_findMaybe rfl rfl (by decide) rfl rfl rfl (by decide) ⟨Nat.le_refl _, Nat.le_refl _⟩ (Nat.le_of_ble_eq_true rfl) (c_findMaybeX γ (I 100 5) hI hnow) (fun v1 S1 I1 J1 hp => ?_)
      obtain ⟨rfl, rfl, ⟨g1, rfl, hg1⟩, rfl⟩ := hp
      show Rj _ _ _ _ _ _ (39, [some (.ref 100), some (.int y), some (.int w)], [], (SS b c), (mX I g1), J, 0, 0)
      refine r_run okX12_asks 1 (cs := []) (σ' := (40, [some (.ref 100), some (.int y), some (.int w)], [.ref 100], (SS b c), (mX I g1), J, 0, 0)) rfl trivial ?_
      refine r_callV okX12_asks okX12_findNear [] [] 100 rfl rfl rfl kkX12_findNear rfl rfl (by decide) rfl rfl rfl (by decide) ⟨Nat.le_refl _, Nat.le_refl _⟩ (Nat.le_of_ble_eq_true rfl) (c_findNearX γ (I := I) (g := g1) (mayB I (I 100 5)) t ht et (fun x hx => hg1 t x (by rw [et, nv_nI (by omega)]; exact Nat.le_refl _) hx) hL) (fun v1 S1 I1 J1 hp => ?_)
      obtain ⟨rfl, rfl, ⟨g2, rfl, -, hg2⟩, rfl⟩ := hp
      show Rj _ _ _ _ _ _ (43, [some (.ref 100), some (.int y), some (.int w)], [], (SS b c), (mX I g2), J, 0, 0)
      refine r_run okX12_asks 2 (cs := []) (σ' := (45, [some (.ref 100), some (.int y), some (.int w)], [.int y, .ref 100], (SS b c), (mX I g2), J, 0, 0)) rfl trivial ?_
      refine r_callV okX12_asks okX12_takes [.int y] [] 100 rfl rfl rfl kkX12_takes rfl rfl (by decide) rfl rfl rfl (by decide) ⟨Nat.le_refl _, Nat.le_refl _⟩ (Nat.le_of_ble_eq_true rfl) (c_takesX γ (I := I) (g := g2) (mayB I (I 100 5)) hI.2.2.1 hW h10s hg2) (fun v1 S1 I1 J1 hp => ?_)
      obtain ⟨rfl, rfl, ⟨g3, rfl, -, -, -, hg3⟩, rfl⟩ := hp
      show Rj _ _ _ _ _ _ (48, [some (.ref 100), some (.int y), some (.int w)], [], (SS b c), (mX I g3), J, 0, 0)
      refine r_run okX12_asks 2 (cs := []) (σ' := (51, [some (.ref 100), some (.int y), some (.int w)], [.int 9, .int w], (SS b c), (mX I g3), J, 0, 0)) rfl trivial ?_
      refine r_icmp okX12_asks rfl (fun (h51 : (9 : Int32) ≤ w) => ?_) (fun (h51 : ¬ (9 : Int32) ≤ w) => ?_)
      · refine r_run okX12_asks 1 (cs := []) (σ' := (64, [some (.ref 100), some (.int y), some (.int w)], [.ref 100], (SS b c), (mX I g3), J, 0, 0)) rfl trivial ?_
        refine r_callV okX12_asks okX12_lineOf [] [] 100 rfl rfl rfl kkX12_lineOf rfl rfl (by decide) rfl rfl rfl (by decide) ⟨Nat.le_refl _, Nat.le_refl _⟩ (Nat.le_of_ble_eq_true rfl) (c_lineOfX γ (I := I) (g := g3) ls hR hg3) (fun v1 S1 I1 J1 hp => ?_)
        obtain ⟨rfl, rfl, ⟨g4, rfl, -⟩, rfl⟩ := hp
        show Rj _ _ _ _ _ _ (67, [some (.ref 100), some (.int y), some (.int w)], [.int (bsI (lnN (ansV I (mayB I (I 100 5)) y) ls 0))], (SS b c), (mX I g4), J, 0, 0)
        refine r_iret okX12_asks rfl rfl rfl (Nat.le_refl _) (Nat.le_refl _) ?_
        refine ⟨?_, rfl, ⟨g4, rfl⟩, rfl⟩
        unfold asV; rw [h10s, h21s, Bool.and_self, if_pos rfl, if_neg (Int32.not_lt.mpr h51)]
      · refine r_run okX12_asks 5 (cs := [vp_in w 9]) (σ' := (67, [some (.ref 100), some (.int y), some (.int w)], [.int ((mX I g3) 134 w.toNatClampNeg)], (SS b c), (mX I g3), J, 0, 0)) rfl ⟨(by obtain ⟨q, hq, rfl⟩ := w9 h21s h51; exact vin hq (by decide)), trivial⟩ ?_
        refine r_iret okX12_asks rfl rfl rfl (Nat.le_refl _) (Nat.le_refl _) ?_
        refine ⟨?_, rfl, ⟨g3, rfl⟩, rfl⟩
        unfold asV; rw [h10s, h21s, Bool.and_self, if_pos rfl, if_pos (Int32.not_le.mp h51)]
        obtain ⟨q, hq, rfl⟩ := w9 h21s h51
        rw [nv_nI (by omega), nI_clamp (by omega)]
        exact congrArg (fun z => some (Value.int z)) (hg3 q hq).symm
    · have h21 : (bi (inB w 0 9)) = (0 : Int32) := Classical.not_not.mp h210
      have h21s := bi_0.mp h21
      refine r_run okX12_asks 1 (cs := []) (σ' := (26, [some (.ref 100), some (.int y), some (.int w)], [.int (-2)], (SS b c), I, J, 0, 0)) rfl trivial ?_
      refine r_iret okX12_asks rfl rfl rfl (Nat.le_refl _) (Nat.le_refl _) ?_
      refine ⟨?_, rfl, ⟨I, mX_self.symm⟩, rfl⟩
      simp [asV, *]
