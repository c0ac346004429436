/-! ===== pairs of calls that change the state: the rest ===== -/
theorem s_end (γ : GE) {b c : Bool} {I : AI} {J : AJ} {ls : List Ln} (hV : Inv I J b ls) (n : Int32) : PairI γ mX11_end mX12_end 1 1 [.int n] b c I J := by
  obtain ⟨⟨⟨l1, l2, l3, l4⟩, o2, o3, o4, o5, o6, o7, o8, o9, o10, o11⟩, ⟨m0, m1, m2, m3, m4, m5, m6, m7, m8, m9, m10, m11, m12, m13, m14⟩, hE⟩ := id hV
  have hq : eqM I (if endB I n then upI I 95 4 n else I) := fun a ha => by
    split
    · exact upI_ne (by omega)
    · rfl
  refine ⟨bi (endB I n), fun b1 c1 I' J' => b = b1 ∧ c = c1 ∧ (if endB I n then upI I 95 4 n else I) = I' ∧ J = J', ct_post (fun rr S' I' J' z => ?_) (o_end γ o9 n), fun b1 c1 I' J' z => ?_⟩
  · obtain ⟨z1, z2, z3, z4⟩ := z; exact ⟨z1, b, c, z2, rfl, rfl, z3, z4⟩
  · obtain ⟨rfl, rfl, rfl, rfl⟩ := z
    refine ct_post (fun rr S' I'' J'' y => ?_) (c_Mend γ (MAll_eq hq hV.2.1).1 n)
    obtain ⟨y1, y2, rfl, rfl⟩ := y
    rw [k_endB hq] at y1
    refine ⟨y1, b, c, y2, ls, ?_⟩
    unfold endN
    rw [k_endB hq]
    cases h : endB I n with
    | false => exact hV
    | true => exact Inv_end hV (by unfold endB at h; exact h) rfl
theorem s_on (γ : GE) {b c : Bool} {I : AI} {J : AJ} {ls : List Ln} (hV : Inv I J b ls) (z : Bool) : PairV γ mX11_on mX12_on 0 0 [.int (bi z)] b c I J := by
  obtain ⟨⟨⟨l1, l2, l3, l4⟩, o2, o3, o4, o5, o6, o7, o8, o9, o10, o11⟩, ⟨m0, m1, m2, m3, m4, m5, m6, m7, m8, m9, m10, m11, m12, m13, m14⟩, hE⟩ := id hV
  refine ⟨fun b1 c1 I' J' => b = b1 ∧ c = c1 ∧ upI I 0 14 (bi z) = I' ∧ J = J', ct_post (fun rr S' I' J' z => ?_) (o_on γ z), fun b1 c1 I' J' w => ?_⟩
  · obtain ⟨z1, z2, z3, z4⟩ := z; exact ⟨z1, b, c, z2, rfl, rfl, z3, z4⟩
  · obtain ⟨rfl, rfl, rfl, rfl⟩ := w
    refine ct_post (fun rr S' I'' J'' y => ?_) (c_Mon γ (by rw [upI_ne (by decide)]; exact m0) z)
    obtain ⟨y1, y2, rfl, rfl⟩ := y
    exact ⟨y1, b, c, y2, ls, Inv_on hV rfl⟩
theorem s_truth (γ : GE) {b c : Bool} {I : AI} {J : AJ} {ls : List Ln} (hV : Inv I J b ls) (t x : Int32) : PairI γ mX11_truth mX12_truth 2 1 [.int t, .int x] b c I J := by
  obtain ⟨⟨⟨l1, l2, l3, l4⟩, o2, o3, o4, o5, o6, o7, o8, o9, o10, o11⟩, ⟨m0, m1, m2, m3, m4, m5, m6, m7, m8, m9, m10, m11, m12, m13, m14⟩, hE⟩ := id hV
  have hq : eqM I (if truB I t x then upI I 64 (nv t) x else I) := fun a ha => by
    split
    · exact upI_ne (by omega)
    · rfl
  have hM2 := MAll_eq hq hV.2.1
  refine ⟨bi (truB I t x), fun b1 c1 I' J' => b = b1 ∧ c = c1 ∧ (if truB I t x then upI I 64 (nv t) x else I) = I' ∧ J = J', ct_post (fun rr S' I' J' z => ?_) (o_truth γ o10 m4 t x), fun b1 c1 I' J' z => ?_⟩
  · obtain ⟨z1, z2, z3, z4⟩ := z; exact ⟨z1, b, c, z2, rfl, rfl, z3, z4⟩
  · obtain ⟨rfl, rfl, rfl, rfl⟩ := z
    refine ct_post (fun rr S' I'' J'' y => ?_) (c_Mtruth γ hM2.1 hM2.2.2.2.2.2.2.2.1 hM2.2.1 t x)
    obtain ⟨y1, y2, rfl, rfl⟩ := y
    rw [k_truB hq] at y1
    refine ⟨y1, b, c, y2, ls, ?_⟩
    unfold truN
    rw [k_truB hq]
    cases h : truB I t x with
    | false => exact hV
    | true =>
      unfold truB at h; rw [Bool.and_eq_true] at h
      exact Inv_tru hV h.2 rfl
theorem s_post (γ : GE) {b c : Bool} {I : AI} {J : AJ} {ls : List Ln} (hV : Inv I J b ls) (p x e : Int32) : PairI γ mX11_post mX12_post 3 1 [.int p, .int x, .int e] b c I J := by
  obtain ⟨⟨⟨l1, l2, l3, l4⟩, o2, o3, o4, o5, o6, o7, o8, o9, o10, o11⟩, ⟨m0, m1, m2, m3, m4, m5, m6, m7, m8, m9, m10, m11, m12, m13, m14⟩, hE⟩ := id hV
  refine ⟨bi (posB p x e), fun b1 c1 I' J' => b = b1 ∧ c = c1 ∧ (posB p x e = true → PlP I J (nv p) (nv x) (nv e) I' J') ∧ (posB p x e = false → I = I' ∧ J = J'), ct_post (fun rr S' I' J' z => ?_) (o_post γ p x e), fun b1 c1 I' J' z => ?_⟩
  · obtain ⟨z1, z2, z3, z4⟩ := z; exact ⟨z1, b, c, z2, rfl, rfl, z3, z4⟩
  · obtain ⟨rfl, rfl, z3, z4⟩ := z
    cases h : posB p x e with
    | false =>
      obtain ⟨rfl, rfl⟩ := z4 h
      refine ct_post (fun rr S' I'' J'' y => ?_) (c_Mpost γ m0 p x e)
      obtain ⟨y1, y2, rfl, rfl⟩ := y
      exact ⟨by rw [← y1, h], b, c, y2, ls, by unfold posN; rw [h]; exact hV⟩
    | true =>
      obtain ⟨rfl, w2, w3⟩ := z3 h
      have h2 := h
      unfold posB at h2
      simp only [Bool.and_eq_true] at h2
      obtain ⟨p0, hp0, rfl⟩ := in_rg (n := 7) h2.1 rfl (by decide)
      obtain ⟨x0, hx0, rfl⟩ := cell_rg h2.2.1
      obtain ⟨e0, he0, rfl⟩ := in_rg (n := 5) h2.2.2 rfl (by decide)
      have e1 : nv (nI p0) = p0 := nv_nI (by omega)
      have e2 : nv (nI x0) = x0 := nv_nI (by omega)
      have e3 : nv (nI e0) = e0 := nv_nI (by omega)
      rw [e1] at w2 w3 ⊢
      rw [e2, e3] at w3
      refine ct_post (fun rr S' I'' J'' y => ?_) (c_Mpost γ (by rw [upI_ne (by decide)]; exact m0) (nI p0) (nI x0) (nI e0))
      obtain ⟨y1, y2, rfl, rfl⟩ := y
      exact ⟨by rw [← y1, h], b, c, y2, ls, Inv_pos hV hp0 hx0 he0 (by unfold posN; rw [h, if_pos rfl, e1]) w2 w3⟩
theorem s_lift (γ : GE) {b c : Bool} {I : AI} {J : AJ} {ls : List Ln} (hV : Inv I J b ls) (y : Int32) : PairI γ mX11_lift mX12_lift 2 2 [.int y] b c I J := by
  obtain ⟨⟨⟨l1, l2, l3, l4⟩, o2, o3, o4, o5, o6, o7, o8, o9, o10, o11⟩, ⟨m0, m1, m2, m3, m4, m5, m6, m7, m8, m9, m10, m11, m12, m13, m14⟩, hE⟩ := id hV
  have hst : stoI I y = stoG I I y := rfl
  have hq : eqM I (if ctyB y then stoI I y else I) := fun a ha => by
    split
    · rw [hst]; exact stoG_fr a (by simp; omega)
    · rfl
  have hM2 := MAll_eq hq hV.2.1
  refine ⟨bi (liB I y), fun b1 c1 I' J' => b = b1 ∧ c = c1 ∧ (if ctyB y then stoI I y else I) = I' ∧ J = J', ct_post (fun rr S' I' J' z => ?_) (o_lift γ o10 o6 m7 m8 y), fun b1 c1 I' J' z => ?_⟩
  · obtain ⟨z1, z2, z3, z4⟩ := z; exact ⟨z1, b, c, z2, rfl, rfl, z3, z4⟩
  · obtain ⟨rfl, rfl, rfl, rfl⟩ := z
    refine ct_post (fun rr S' I'' J'' w => ?_) (c_Mlift γ hM2.1 hM2.2.2.2.2.2.2.2.1 hM2.2.1 y)
    obtain ⟨y1, y2, rfl, rfl⟩ := w
    rw [k_liB hq] at y1
    refine ⟨y1, b, c, y2, ls, ?_⟩
    unfold liN
    cases h : ctyB y with
    | false => exact hV
    | true =>
      rw [h] at hq
      simp only [if_true] at hq ⊢
      have h1 := eqM_lif hq y
      refine Inv_war hV (I1 := stoI I y) (M := lifN I y) stoG_fr kJ_r (lift_G o6 y) (MWar_lif m7 y) (lift_D m8 y) (fun a k h1 _ => lif_fr y h1) (fun a ha => funext fun k => lif_fr y (by unfold warC; simp; omega)) (fun a ha => h1 a ha)
theorem s_warn (γ : GE) {b c : Bool} {I : AI} {J : AJ} {ls : List Ln} (hV : Inv I J b ls) (y m : Int32) : PairI γ mX11_warn mX12_warn 4 2 [.int y, .int m] b c I J := by
  obtain ⟨⟨⟨l1, l2, l3, l4⟩, o2, o3, o4, o5, o6, o7, o8, o9, o10, o11⟩, ⟨m0, m1, m2, m3, m4, m5, m6, m7, m8, m9, m10, m11, m12, m13, m14⟩, hE⟩ := id hV
  refine ⟨waV I y m, fun b1 c1 I' J' => b = b1 ∧ c = c1 ∧ (waB y m = true → IsP I J (nv y) m (fun x => decide (¬ I 104 x = 0)) I' J') ∧ (waB y m = false → I = I' ∧ J = J'), ct_post (fun rr S' I' J' z => ?_) (o_warn γ o10 o6 m7 m8 l4 y m), fun b1 c1 I' J' z => ?_⟩
  · obtain ⟨z1, z2, z3, z4⟩ := z; exact ⟨z1, b, c, z2, rfl, rfl, z3, z4⟩
  · obtain ⟨rfl, rfl, z3, z4⟩ := z
    cases h : waB y m with
    | false =>
      obtain ⟨rfl, rfl⟩ := z4 h
      refine ct_post (fun rr S' I'' J'' w => ?_) (c_Mwarn γ m0 m7 m1 y m)
      obtain ⟨y1, y2, rfl, rfl⟩ := w
      exact ⟨y1, b, c, y2, ls, by unfold waN; rw [h]; exact hV⟩
    | true =>
      have hz : IsG I I J (nv y) m (fun x => decide (¬ I 104 x = 0)) I' J' := z3 h
      have hq : eqM I I' := fun a ha => (IsG_fr hz).1 a (by simp; omega)
      have hM2 := MAll_eq hq hV.2.1
      have h2 := h
      unfold waB at h2
      rw [Bool.and_eq_true] at h2
      have hy := cty_lt h2.1
      have hm1 := inB_t.mp h2.2
      have hm : rg 61 m := in_rg (n := 60) (inB_t.mpr ⟨Int32.le_trans (by decide) hm1.1, hm1.2⟩) rfl (by decide)
      refine ct_post (fun rr S' I'' J'' w => ?_) (c_Mwarn γ hM2.1 hM2.2.2.2.2.2.2.2.1 hM2.2.1 y m)
      obtain ⟨y1, y2, rfl, rfl⟩ := w
      rw [k_waV hq] at y1
      refine ⟨y1, b, c, y2, ls, ?_⟩
      unfold waN
      rw [h, if_pos rfl]
      have hG := issue_G (I := I) (M := I) o6 hy.1 m7 hz
      rw [← hy.2] at hG
      have h5 : I 100 5 ≤ I 100 5 + m := by
        obtain ⟨u, hu, eu⟩ := hm
        obtain ⟨v, hv, ev⟩ := m4
        rw [ev, eu, nI_ad]; exact nI_le (by omega) (by omega)
      have hD := beg_D m8 hy.1 m7 h5
      rw [← hy.2] at hD
      exact Inv_war hV (I1 := I') (M := begN I y m) (IsG_fr hz).1 (IsG_fr hz).2 hG (MWar_beg m7 y m h2.1 hm) hD (fun a k q1 q2 => beg_fr y m q1 q2) (fun a ha => funext fun k => beg_fr y m (by unfold warC; simp; omega) (fun q => by omega)) (eqM_beg hq y m)
theorem jdS_fr : ∀ (j w n : Nat) (I : AI) (a : Nat), a ≠ 131 → a ≠ 133 → (jdS j w n I).1 a = I a
  | 0, _, _, _, _, _, _ => rfl
  | j + 1, w, n, I, a, h1, h2 => by
    unfold jdS; split
    · rw [jdS_fr j (w + 1) (n + 1) _ a h1 h2]; unfold jdN; rw [upI_ne h1, upI_ne h2]
    · exact jdS_fr j (w + 1) n I a h1 h2
theorem s_judge (γ : GE) {b c : Bool} {I : AI} {J : AJ} {ls : List Ln} (hV : Inv I J b ls)  : PairI γ mX11_judge mX12_judge 3 1 [] b c I J := by
  obtain ⟨⟨⟨l1, l2, l3, l4⟩, o2, o3, o4, o5, o6, o7, o8, o9, o10, o11⟩, ⟨m0, m1, m2, m3, m4, m5, m6, m7, m8, m9, m10, m11, m12, m13, m14⟩, hE⟩ := id hV
  refine ⟨jdgV I, fun b1 c1 I' J' => b = b1 ∧ c = c1 ∧ JR I I' (jdgN I) ∧ J = J', ct_post (fun rr S' I' J' z => ?_) (o_judge γ o10 o6 m7 o7 m9 l1 hE), fun b1 c1 I' J' z => ?_⟩
  · obtain ⟨z1, z2, z3, z4⟩ := z; exact ⟨z1, b, c, z2, rfl, rfl, z3, z4⟩
  · obtain ⟨rfl, rfl, z3, rfl⟩ := z
    have hq : eqM I I' := fun a ha => z3.1 a (by simp; omega)
    have hM2 := MAll_eq hq hV.2.1
    refine ct_post (fun rr S' I'' J'' w => ?_) (c_Mjudge γ hM2.1 hM2.2.2.2.2.2.2.2.1 hM2.2.1 hM2.2.2.2.2.2.2.2.2.2.1)
    obtain ⟨y1, y2, rfl, rfl⟩ := w
    have hj := eqM_jdS (nv (I 100 45)) 0 0 I I' hq
    have e45 : I' 100 45 = I 100 45 := by rw [hq 100 (by decide)]
    refine ⟨by rw [← y1]; unfold jdgV; rw [e45, hj.2], b, c, y2, ls, ?_⟩
    refine Inv_jdg hV z3 (fun a ha => ?_) (fun a ha => ?_)
    · unfold jdgN; exact jdS_fr _ _ _ _ a (by omega) (by omega)
    · unfold jdgN; rw [e45]; exact hj.1 a ha
theorem op_ne {I : AI} {k a : Nat} {v : Int32} (h1 : a ≠ 96) (h2 : a ≠ 95) : op4 I k v a = I a := funext fun d => by unfold op4; rw [if_neg h1, if_neg h2]
theorem tp_ne {I : AI} {k a : Nat} {v : Int32} (h1 : a ≠ 118) (h2 : a ≠ 100) : tp4 I k v a = I a := funext fun d => by unfold tp4; rw [if_neg h1, if_neg h2]
theorem op_95 {I : AI} {k d : Nat} {v : Int32} (h : ¬ d = 4) : op4 I k v 95 d = I 95 d := by unfold op4; rw [if_neg (by decide), if_pos rfl, if_neg h]
theorem tp_100 {I : AI} {k d : Nat} {v : Int32} (h : ¬ d = 23) : tp4 I k v 100 d = I 100 d := by unfold tp4; rw [if_neg (by decide), if_pos rfl, if_neg h]
theorem op_96 {I : AI} {k d : Nat} {v : Int32} : op4 I k v 96 d = if k ≤ d ∧ d < k + 4 then byM v (d - k) else I 96 d := by unfold op4; rw [if_pos rfl]
theorem tp_118 {I : AI} {k d : Nat} {v : Int32} : tp4 I k v 118 d = if k ≤ d ∧ d < k + 4 then byM v (d - k) else I 118 d := by unfold tp4; rw [if_pos rfl]
theorem grw_1 {X Y : AI} {k d : Nat} {v : Int32} (h : X 96 d = Y 118 d ∧ rg 256 (Y 118 d)) : op4 X k v 96 d = tp4 Y k v 118 d ∧ rg 256 (tp4 Y k v 118 d) := by
  rw [op_96, tp_118]; split
  · exact ⟨rfl, byM_rg _ _⟩
  · exact h
theorem s_feed (γ : GE) {b c : Bool} {I : AI} {J : AJ} {ls : List Ln} (hV : Inv I J b ls) (p q r s t : Int32) : PairI γ mX11_feed mX12_feed 1 1 [.int p, .int q, .int r, .int s, .int t] b c I J := by
  obtain ⟨⟨⟨l1, l2, l3, l4⟩, o2, o3, o4, o5, o6, o7, o8, o9, o10, o11⟩, ⟨m0, m1, m2, m3, m4, m5, m6, m7, m8, m9, m10, m11, m12, m13, m14⟩, hE⟩ := id hV
  have hq : eqM I (feeO I p q r s t) := fun a ha => by
    unfold feeO; split
    · rw [op_ne (by omega) (by omega), op_ne (by omega) (by omega), op_ne (by omega) (by omega), op_ne (by omega) (by omega), op_ne (by omega) (by omega)]
    · rfl
  have hM2 := MAll_eq hq hV.2.1
  refine ⟨feeV I, fun b1 c1 I' J' => b = b1 ∧ c = c1 ∧ feeO I p q r s t = I' ∧ J = J', ct_post (fun rr S' I' J' z => ?_) (o_feed γ o9 m11 p q r s t), fun b1 c1 I' J' z => ?_⟩
  · obtain ⟨z1, z2, z3, z4⟩ := z; exact ⟨z1, b, c, z2, rfl, rfl, z3, z4⟩
  · obtain ⟨rfl, rfl, rfl, rfl⟩ := z
    refine ct_post (fun rr S' I'' J'' w => ?_) (c_Mfeed γ hM2.1 hM2.2.2.2.2.2.2.2.2.2.2.2.1 p q r s t)
    obtain ⟨y1, y2, rfl, rfl⟩ := w
    rw [k_feeV hq] at y1
    refine ⟨y1, b, c, y2, ls, ?_⟩
    unfold feeN
    rw [k_feeB hq]
    cases h : feeB I with
    | false => unfold feeO; rw [h]; exact hV
    | true =>
      rw [if_pos rfl, show feeO I p q r s t 100 23 = I 100 23 by rw [hq 100 (by decide)]]
      unfold feeO
      rw [h, if_pos rfl]
      obtain ⟨k, hk, ek⟩ := m11.1
      have hk2 : k ≤ 780 := by
        unfold feeB at h; rw [ek] at h
        exact Nat.le_of_not_lt fun z => absurd (of_decide_eq_true h) (nI_ge (a := 780) (b := k) z (by omega))
      rw [ek, nv_nI (by omega)]
      refine Inv_grw hV (n := k) (m := k + 20) (by omega) ⟨fun a w1 w2 w3 w4 => ?_, fun d hd => ?_, fun d hd => ?_, ?_, ?_, fun i hi => ?_⟩
      · rw [tp_ne w4 w3, tp_ne w4 w3, tp_ne w4 w3, tp_ne w4 w3, tp_ne w4 w3, op_ne w2 w1, op_ne w2 w1, op_ne w2 w1, op_ne w2 w1, op_ne w2 w1]
      · rw [tp_100 hd, tp_100 hd, tp_100 hd, tp_100 hd, tp_100 hd, op_ne (by decide) (by decide), op_ne (by decide) (by decide), op_ne (by decide) (by decide), op_ne (by decide) (by decide), op_ne (by decide) (by decide)]
      · rw [tp_ne (by decide) (by decide), tp_ne (by decide) (by decide), tp_ne (by decide) (by decide), tp_ne (by decide) (by decide), tp_ne (by decide) (by decide), op_95 hd, op_95 hd, op_95 hd, op_95 hd, op_95 hd]
      · rw [tp_ne (by decide) (by decide), tp_ne (by decide) (by decide), tp_ne (by decide) (by decide), tp_ne (by decide) (by decide), tp_ne (by decide) (by decide), op4_t]
      · rw [tp4_t]
      · rw [show ∀ Z : AI, (tp4 (tp4 (tp4 (tp4 (tp4 Z k p) (k + 4) q) (k + 8) r) (k + 12) s) (k + 16) t) 96 i = Z 96 i from fun Z => by rw [tp_ne (by decide) (by decide), tp_ne (by decide) (by decide), tp_ne (by decide) (by decide), tp_ne (by decide) (by decide), tp_ne (by decide) (by decide)]]
        refine grw_1 (grw_1 (grw_1 (grw_1 (grw_1 ?_))))
        rw [op_ne (by decide) (by decide), op_ne (by decide) (by decide), op_ne (by decide) (by decide), op_ne (by decide) (by decide), op_ne (by decide) (by decide)]
        exact ⟨o9.2.1 i hi, m11.2 i hi⟩
theorem s_minutes79 (γ : GE) {c : Bool} {I : AI} {J : AJ} {ls : List Ln} (hV : Inv I J false ls) (n : Int32) : PairI γ mX11_minutes mX12_minutes 7 4 [.int n] false c I J := by
  obtain ⟨⟨⟨l1, l2, l3, l4⟩, o2, o3, o4, o5, o6, o7, o8, o9, o10, o11⟩, ⟨m0, m1, m2, m3, m4, m5, m6, m7, m8, m9, m10, m11, m12, m13, m14⟩, hE⟩ := id hV
  obtain ⟨t, ht, et⟩ := m4
  refine ⟨mnV I n, fun b1 c1 I' J' => false = b1 ∧ c = c1 ∧ (mnB I n = true → OBy I J I' (mnN (mayB I (I 100 5)) ls I (nv n)) J' (t + nv n)) ∧ (mnB I n = false → I = I' ∧ J = J'), ct_post (fun rr S' I' J' z => ?_) (o_minutes79 γ (OB0_of hV) (OBy_of hV ht et) n), fun b1 c1 I' J' z => ?_⟩
  · obtain ⟨z1, z2, z3, z4⟩ := z; exact ⟨z1, false, c, z2, rfl, rfl, z3, z4⟩
  · obtain ⟨rfl, rfl, z3, z4⟩ := z
    have hq : eqM I I' := by
      cases h : mnB I n with
      | false => obtain ⟨rfl, rfl⟩ := z4 h; exact eqM_r
      | true => exact fun a ha => (z3 h).2.1 a (by simp; omega)
    have hM2 := MAll_eq hq hV.2.1
    refine ct_post (fun rr S' I'' J'' w => ?_) (c_Mminutes γ ls ⟨MBase_of hM2, hM2.2.1, hM2.2.2.2.2.2.2.2.1, hM2.2.2.2.2.2.2.2.2.2.2.2.2.2.1⟩ n)
    obtain ⟨y1, y2, ⟨G, rfl⟩, rfl⟩ := w
    rw [k_mnV hq] at y1
    refine ⟨y1, false, c, y2, ls, ?_⟩
    have eb : mnB I' n = mnB I n := by unfold mnB; rw [hq 100 (by decide)]
    unfold mnR
    rw [eb]
    cases h : mnB I n with
    | false =>
      obtain ⟨rfl, rfl⟩ := z4 h
      exact Inv_m (fun a w1 w2 w3 w4 => mX_f (by unfold scr; simp; omega)) (fun _ _ => rfl) hV
    | true =>
      rw [if_pos rfl, k_mayF hq]
      refine Inv_min hV et (Nat.le_add_right t (nv n)) (z3 h) (fun a k q1 q2 => mn_fr q1 q2 _ _) (fun a ha => ?_) (fun a ha hs => ?_)
      · rw [mX_f (by unfold scr; simp; omega)]; exact funext fun k => mn_fr (by unfold warC; simp; omega) (fun q => by omega) _ _
      · rw [mX_f hs]; exact eqM_mn _ ls _ _ _ hq a ha
theorem s_minutes87 (γ : GE) {c : Bool} {I : AI} {J : AJ} {ls : List Ln} (hV : Inv I J true ls) (n : Int32) : PairI γ mX11_minutes mX12_minutes 7 4 [.int n] true c I J := by
  obtain ⟨⟨⟨l1, l2, l3, l4⟩, o2, o3, o4, o5, o6, o7, o8, o9, o10, o11⟩, ⟨m0, m1, m2, m3, m4, m5, m6, m7, m8, m9, m10, m11, m12, m13, m14⟩, hE⟩ := id hV
  obtain ⟨t, ht, et⟩ := m4
  refine ⟨mnV I n, fun b1 c1 I' J' => true = b1 ∧ c = c1 ∧ (mnB I n = true → OBy I J I' (mnN (mayB I (I 100 5)) ls I (nv n)) J' (t + nv n)) ∧ (mnB I n = false → I = I' ∧ J = J'), ct_post (fun rr S' I' J' z => ?_) (o_minutes87 γ (OB0_of hV) (OBy_of hV ht et) n), fun b1 c1 I' J' z => ?_⟩
  · obtain ⟨z1, z2, z3, z4⟩ := z; exact ⟨z1, true, c, z2, rfl, rfl, z3, z4⟩
  · obtain ⟨rfl, rfl, z3, z4⟩ := z
    have hq : eqM I I' := by
      cases h : mnB I n with
      | false => obtain ⟨rfl, rfl⟩ := z4 h; exact eqM_r
      | true => exact fun a ha => (z3 h).2.1 a (by simp; omega)
    have hM2 := MAll_eq hq hV.2.1
    refine ct_post (fun rr S' I'' J'' w => ?_) (c_Mminutes γ ls ⟨MBase_of hM2, hM2.2.1, hM2.2.2.2.2.2.2.2.1, hM2.2.2.2.2.2.2.2.2.2.2.2.2.2.1⟩ n)
    obtain ⟨y1, y2, ⟨G, rfl⟩, rfl⟩ := w
    rw [k_mnV hq] at y1
    refine ⟨y1, true, c, y2, ls, ?_⟩
    have eb : mnB I' n = mnB I n := by unfold mnB; rw [hq 100 (by decide)]
    unfold mnR
    rw [eb]
    cases h : mnB I n with
    | false =>
      obtain ⟨rfl, rfl⟩ := z4 h
      exact Inv_m (fun a w1 w2 w3 w4 => mX_f (by unfold scr; simp; omega)) (fun _ _ => rfl) hV
    | true =>
      rw [if_pos rfl, k_mayF hq]
      refine Inv_min hV et (Nat.le_add_right t (nv n)) (z3 h) (fun a k q1 q2 => mn_fr q1 q2 _ _) (fun a ha => ?_) (fun a ha hs => ?_)
      · rw [mX_f (by unfold scr; simp; omega)]; exact funext fun k => mn_fr (by unfold warC; simp; omega) (fun q => by omega) _ _
      · rw [mX_f hs]; exact eqM_mn _ ls _ _ _ hq a ha
def PairR (γ : GE) (mo mm : MI) (d0 d1 : Nat) (b c : Bool) (I : AI) (J : AJ) : Prop := ∃ (Mid : Int32 → Bool → Bool → AI → AJ → Prop), Ct γ mo d0 0 0 [.ref 0] (SS b c) I J (fun r S' I' J' => ∃ v, some (.int v) = r ∧ ∃ b1 c1, SS b1 c1 = S' ∧ Mid v b1 c1 I' J') ∧ ∀ v b1 c1 I' J', Mid v b1 c1 I' J' → Ct γ mm d1 0 0 [.ref 100] (SS b1 c1) I' J' (fun r S' I'' J'' => some (.int v) = r ∧ ∃ b2 c2, SS b2 c2 = S' ∧ ∃ ls, Inv I'' J'' b2 ls)
theorem Tap_of {I : AI} {J : AJ} {b : Bool} {ls : List Ln} (hV : Inv I J b ls) : Tap (I 118) (nv (I 100 23)) I := by
  have h := rg_nv hV.2.1.2.2.2.2.2.2.2.2.2.2.2.1.1 (by decide)
  refine ⟨⟨by omega, fun q hq => hV.2.1.2.2.2.2.2.2.2.2.2.2.2.1.2 q (by omega)⟩, hV.1.2.2.2.2.2.2.2.2.1.1.trans h.2, fun i hi => hV.1.2.2.2.2.2.2.2.2.1.2.1 i (by omega)⟩
theorem s_rules79 (γ : GE) {c : Bool} {I : AI} {J : AJ} {ls : List Ln} (hV : Inv I J true ls) : PairR γ mX11_rules mX12_rules 23 9 true c I J := by
  obtain ⟨⟨⟨l1, l2, l3, l4⟩, o2, o3, o4, o5, o6, o7, o8, o9, o10, o11⟩, ⟨m0, m1, m2, m3, m4, m5, m6, m7, m8, m9, m10, m11, m12, m13, m14⟩, hE⟩ := id hV
  have hX := Tap_of hV
  have r23 := rg_nv m11.1 (by decide)
  refine ⟨fun v b1 c1 I' J' => J = J' ∧ ∃ res, (∃ f, RdT (I 118) (nv (I 100 23)) f 0 [] res) ∧ fr qR79 I I' ∧ RuP true 79 (I 118) (nv (I 100 23)) I res (some (.int v)) (SS b1 c1) I' ∧ (match res with | .inl _ => b1 = true | .inr _ => b1 = false), ct_post (fun rr S' I' J' z => ?_) (o_rules79 γ hX), fun v b1 c1 I' J' z => ?_⟩
  · obtain ⟨z1, res, z2, z3, z4⟩ := z
    cases res with
    | inl e =>
      obtain ⟨h4, rfl, rfl, h6⟩ := z4
      exact ⟨-1, rfl, true, true, rfl, z1, .inl e, z2, z3, ⟨h4, rfl, rfl, h6⟩, rfl⟩
    | inr ls2 =>
      obtain ⟨h4, rfl, rfl, h6⟩ := z4
      exact ⟨nI ls2.length, rfl, false, true, rfl, z1, .inr ls2, z2, z3, ⟨h4, rfl, rfl, h6⟩, rfl⟩
  · obtain ⟨rfl, res, z2, z3, z4, z5⟩ := z
    have e118 : I' 118 = I 118 := fr_c z3 118 (fun _ => rfl)
    have e100 : I' 100 = I 100 := fr_c z3 100 (fun _ => rfl)
    have hW : MWds I' := MWds_k (fr_c z3 119 (fun _ => rfl)) m12
    refine ct_post (fun rr S' I'' J'' w => ?_) (c_Mrules γ (n := nv (I 100 23)) (by rw [e100]; exact m0) (by rw [e118]; exact hX.1) (by rw [e100]; exact r23.2) hW res (by rw [e118]; exact z2))
    obtain ⟨rfl, rfl, w3⟩ := w
    rw [e118] at w3
    cases res with
    | inl e =>
      obtain ⟨h4, h5, h6, h7, h8⟩ := z4
      obtain ⟨v1, v2, v3, v4, v5⟩ := w3
      have hb : b1 = true := z5
      subst hb
      refine ⟨h5.symm.trans v1, true, c1, rfl, ls, Inv_rulf79 hV z3 v2 ?_ v3 ?_ ?_⟩
      · rw [v2 95 4 rfl]; exact h4
      · rw [v2 95 8 rfl, v4]; exact h7
      · rw [v2 95 9 rfl, v5]; exact h8
    | inr ls2 =>
      obtain ⟨h4, h5, h6, h7, h8, h9, h10, h11⟩ := z4
      obtain ⟨v1, v2, v3, v4, v5, v6⟩ := w3
      have hb : b1 = false := z5
      subst hb
      obtain ⟨f, hf⟩ := z2
      have hok := ty_Rd (ls := ls2) f 0 [] (fun q hq => absurd hq List.not_mem_nil) hf
      have ge : ∀ a, 79 ≤ a → a ≤ 85 → I'' a = I' a := fun a q1 q2 => fr_c v2 a (fun k => by
        have f : ∀ n, a ≠ n → (a == n) = false := fun n h => beq_eq_false_iff_ne.mpr h
        unfold qV qU qR qP q4 qE qF isL isK
        rw [f 100 (by omega), f 120 (by omega), f 121 (by omega), f 122 (by omega), f 123 (by omega), f 124 (by omega), f 125 (by omega), f 126 (by omega)]; rfl)
      refine ⟨h5.symm.trans v1, false, c1, rfl, ls2, Inv_ruls79 hV z3 v2 ?_ v3 ?_ ?_ v6 ?_⟩
      · rw [v2 95 4 rfl]; exact h4
      · rw [v2 95 8 rfl, v4]; exact h7
      · rw [v2 95 9 rfl, v5]; exact h8
      · exact ORul_k (I := I') ge ⟨h9, h10, fun k q hq => ⟨h11 k q hq, hok q (List.mem_of_getElem? hq)⟩⟩
theorem s_rules87 (γ : GE) {c : Bool} {I : AI} {J : AJ} {ls : List Ln} (hV : Inv I J false ls) : PairR γ mX11_rules mX12_rules 23 9 false c I J := by
  obtain ⟨⟨⟨l1, l2, l3, l4⟩, o2, o3, o4, o5, o6, o7, o8, o9, o10, o11⟩, ⟨m0, m1, m2, m3, m4, m5, m6, m7, m8, m9, m10, m11, m12, m13, m14⟩, hE⟩ := id hV
  have hX := Tap_of hV
  have r23 := rg_nv m11.1 (by decide)
  refine ⟨fun v b1 c1 I' J' => J = J' ∧ ∃ res, (∃ f, RdT (I 118) (nv (I 100 23)) f 0 [] res) ∧ fr qR87 I I' ∧ RuP false 87 (I 118) (nv (I 100 23)) I res (some (.int v)) (SS b1 c1) I' ∧ (match res with | .inl _ => b1 = false | .inr _ => b1 = true), ct_post (fun rr S' I' J' z => ?_) (o_rules87 γ hX), fun v b1 c1 I' J' z => ?_⟩
  · obtain ⟨z1, res, z2, z3, z4⟩ := z
    cases res with
    | inl e =>
      obtain ⟨h4, rfl, rfl, h6⟩ := z4
      exact ⟨-1, rfl, false, false, rfl, z1, .inl e, z2, z3, ⟨h4, rfl, rfl, h6⟩, rfl⟩
    | inr ls2 =>
      obtain ⟨h4, rfl, rfl, h6⟩ := z4
      exact ⟨nI ls2.length, rfl, true, false, rfl, z1, .inr ls2, z2, z3, ⟨h4, rfl, rfl, h6⟩, rfl⟩
  · obtain ⟨rfl, res, z2, z3, z4, z5⟩ := z
    have e118 : I' 118 = I 118 := fr_c z3 118 (fun _ => rfl)
    have e100 : I' 100 = I 100 := fr_c z3 100 (fun _ => rfl)
    have hW : MWds I' := MWds_k (fr_c z3 119 (fun _ => rfl)) m12
    refine ct_post (fun rr S' I'' J'' w => ?_) (c_Mrules γ (n := nv (I 100 23)) (by rw [e100]; exact m0) (by rw [e118]; exact hX.1) (by rw [e100]; exact r23.2) hW res (by rw [e118]; exact z2))
    obtain ⟨rfl, rfl, w3⟩ := w
    rw [e118] at w3
    cases res with
    | inl e =>
      obtain ⟨h4, h5, h6, h7, h8⟩ := z4
      obtain ⟨v1, v2, v3, v4, v5⟩ := w3
      have hb : b1 = false := z5
      subst hb
      refine ⟨h5.symm.trans v1, false, c1, rfl, ls, Inv_rulf87 hV z3 v2 ?_ v3 ?_ ?_⟩
      · rw [v2 95 4 rfl]; exact h4
      · rw [v2 95 8 rfl, v4]; exact h7
      · rw [v2 95 9 rfl, v5]; exact h8
    | inr ls2 =>
      obtain ⟨h4, h5, h6, h7, h8, h9, h10, h11⟩ := z4
      obtain ⟨v1, v2, v3, v4, v5, v6⟩ := w3
      have hb : b1 = true := z5
      subst hb
      obtain ⟨f, hf⟩ := z2
      have hok := ty_Rd (ls := ls2) f 0 [] (fun q hq => absurd hq List.not_mem_nil) hf
      have ge : ∀ a, 87 ≤ a → a ≤ 93 → I'' a = I' a := fun a q1 q2 => fr_c v2 a (fun k => by
        have f : ∀ n, a ≠ n → (a == n) = false := fun n h => beq_eq_false_iff_ne.mpr h
        unfold qV qU qR qP q4 qE qF isL isK
        rw [f 100 (by omega), f 120 (by omega), f 121 (by omega), f 122 (by omega), f 123 (by omega), f 124 (by omega), f 125 (by omega), f 126 (by omega)]; rfl)
      refine ⟨h5.symm.trans v1, true, c1, rfl, ls2, Inv_ruls87 hV z3 v2 ?_ v3 ?_ ?_ v6 ?_⟩
      · rw [v2 95 4 rfl]; exact h4
      · rw [v2 95 8 rfl, v4]; exact h7
      · rw [v2 95 9 rfl, v5]; exact h8
      · exact ORul_k (I := I') ge ⟨h9, h10, fun k q hq => ⟨h11 k q hq, hok q (List.mem_of_getElem? hq)⟩⟩
