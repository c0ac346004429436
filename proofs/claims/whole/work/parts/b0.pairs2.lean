/-! ===== pairs of calls that change the state ===== -/
theorem MAll_eq {I I' : AI} {ls : List Ln} (h : eqM I I') (hM : MAll I ls) : MAll I' ls := MAll_k (fun a q1 _ _ _ _ => h a q1) hM
theorem upI_ix {I : AI} {a k : Nat} {v : Int32} {d : Nat} : upI I a k v a d = if d = k then v else I a d := by unfold upI; rw [if_pos rfl]
theorem clB_ne {I : AI} {a k x : Nat} (h : x ≠ 109) : clB I a k x = I x := funext fun d => by unfold clB; rw [if_neg h]
theorem cell_rg {x : Int32} (h : cellB x = true) : rg 96 x := ⟨nv x, (cell_lt h).1, (cell_lt h).2⟩
theorem cty_rg {x : Int32} (h : ctyB x = true) : rg 8 x := ⟨nv x, (cty_lt h).1, (cty_lt h).2⟩
theorem in_rg {n : Nat} {x hi : Int32} (h : inB x 0 hi = true) (hh : hi = nI n) (hn : n < 2 ^ 31) : rg (n + 1) x := by subst hh; exact inB_rg hn h
theorem byM_rg (v : Int32) (i : Nat) : rg 256 (byM v i) := by
  have key : ∀ x : Int32, rg 256 (x &&& 255) := fun x => by
    obtain ⟨j, hj, e⟩ := pk_andE x (m := 255) 8 (by decide); exact ⟨j, hj, e⟩
  unfold byM
  split <;> exact key _
theorem eq_lan {I : AI} {x y n s : Int32} : eqM I (landI I x y n s) := fun a ha => by
  unfold landI; split
  · unfold stlI; rw [upI_ne (by omega), upI_ne (by omega), upI_ne (by omega), upI_ne (by omega), upI_ne (by omega)]
  · rfl
theorem s_land (γ : GE) {b c : Bool} {I : AI} {J : AJ} {ls : List Ln} (hV : Inv I J b ls) (x y n s : Int32) : PairI γ mX11_land mX12_land 2 1 [.int x, .int y, .int n, .int s] b c I J := by
  obtain ⟨⟨⟨l1, l2, l3, l4⟩, o2, o3, o4, o5, o6, o7, o8, o9, o10, o11⟩, ⟨m0, m1, m2, m3, m4, m5, m6, m7, m8, m9, m10, m11, m12, m13, m14⟩, hE⟩ := id hV
  refine ⟨bi (landB x y n s), fun b1 c1 I' J' => b = b1 ∧ c = c1 ∧ landI I x y n s = I' ∧ landJ I J x y n s = J', ct_post (fun rr S' I' J' z => ?_) (o_land γ l1 m1 x y n s), fun b1 c1 I' J' z => ?_⟩
  · obtain ⟨z1, z2, z3, z4⟩ := z; exact ⟨z1, b, c, z2, rfl, rfl, z3, z4⟩
  · obtain ⟨rfl, rfl, rfl, rfl⟩ := z
    refine ct_post (fun rr S' I'' J'' y => ?_) (c_Mland γ ((congrFun (eq_lan 100 (by decide)) 0).trans m0) x y n s)
    obtain ⟨y1, y2, rfl, rfl⟩ := y
    refine ⟨y1, b, c, y2, ls, ?_⟩
    cases h : landB x y n s with
    | false => unfold landN landI landJ; rw [h]; exact hV
    | true =>
      have h2 := h
      unfold landB at h2
      simp only [Bool.and_eq_true] at h2
      obtain ⟨x0, hx0, rfl⟩ := cell_rg h2.1
      obtain ⟨k, hk, rfl⟩ := cty_rg h2.2.1
      obtain ⟨n0, hn0, rfl⟩ := in_rg (n := 999) h2.2.2.1 rfl (by decide)
      obtain ⟨s0, hs0, rfl⟩ := in_rg (n := 30) h2.2.2.2 rfl (by decide)
      obtain ⟨k0, hk0, e0⟩ := (m1 x0 hx0).1
      refine Inv_lan hV (x := x0) (k0 := k0) (k := k) (n := n0) (s := s0) hx0 hk hn0 hs0 hk0 e0 ?_ ?_
      · unfold landN landI; rw [h, if_pos rfl, if_pos rfl, nv_nI (by omega), nv_nI (by omega), e0, nv_nI (by omega)]
      · unfold landJ; rw [h, if_pos rfl, nv_nI (by omega), nv_nI (by omega), e0, nv_nI (by omega)]
theorem s_siren (γ : GE) {b c : Bool} {I : AI} {J : AJ} {ls : List Ln} (hV : Inv I J b ls) (x : Int32) (z : Bool) : PairI γ mX11_siren mX12_siren 2 1 [.int x, .int (bi z)] b c I J := by
  obtain ⟨⟨⟨l1, l2, l3, l4⟩, o2, o3, o4, o5, o6, o7, o8, o9, o10, o11⟩, ⟨m0, m1, m2, m3, m4, m5, m6, m7, m8, m9, m10, m11, m12, m13, m14⟩, hE⟩ := id hV
  refine ⟨bi (cellB x), fun b1 c1 I' J' => b = b1 ∧ c = c1 ∧ I = I' ∧ (cellB x = true → kJ [7] J J' ∧ cs J' 7 (fun y => if y = nv x then z else decide (¬ I 104 y = 0))) ∧ (cellB x = false → J = J'), ct_post (fun rr S' I' J' z => ?_) (o_siren γ l4 x z), fun b1 c1 I' J' z => ?_⟩
  · obtain ⟨z1, z2, z3, z4, z5⟩ := z; exact ⟨z1, b, c, z2, rfl, rfl, z3, z4, z5⟩
  · obtain ⟨rfl, rfl, rfl, z4, z5⟩ := z
    refine ct_post (fun rr S' I'' J'' y => ?_) (c_Msiren γ m0 x _)
    obtain ⟨y1, y2, rfl, rfl⟩ := y
    refine ⟨y1, b, c, y2, ls, ?_⟩
    cases h : cellB x with
    | false => unfold sirN; rw [h, ← z5 h]; exact hV
    | true =>
      obtain ⟨w1, w2⟩ := z4 h
      exact Inv_sir hV (cell_lt h).1 (by unfold sirN; rw [h, if_pos rfl]) w1 w2
theorem s_storm (γ : GE) {b c : Bool} {I : AI} {J : AJ} {ls : List Ln} (hV : Inv I J b ls) (m s : Int32) : PairI γ mX11_storm mX12_storm 2 1 [.int m, .int s] b c I J := by
  obtain ⟨⟨⟨l1, l2, l3, l4⟩, o2, o3, o4, o5, o6, o7, o8, o9, o10, o11⟩, ⟨m0, m1, m2, m3, m4, m5, m6, m7, m8, m9, m10, m11, m12, m13, m14⟩, hE⟩ := id hV
  refine ⟨bi (stoB m s), fun b1 c1 I' J' => b = b1 ∧ c = c1 ∧ (if stoB m s then upI (upI (upI I 37 6 m) 37 7 s) 37 9 0 else I) = I' ∧ J = J', ct_post (fun rr S' I' J' z => ?_) (o_storm γ m s), fun b1 c1 I' J' z => ?_⟩
  · obtain ⟨z1, z2, z3, z4⟩ := z; exact ⟨z1, b, c, z2, rfl, rfl, z3, z4⟩
  · obtain ⟨rfl, rfl, rfl, rfl⟩ := z
    refine ct_post (fun rr S' I'' J'' y => ?_) (c_Mstorm γ (by split; (· rw [upI_ne (by decide), upI_ne (by decide), upI_ne (by decide)]; exact m0); exact m0) m s)
    obtain ⟨y1, y2, rfl, rfl⟩ := y
    refine ⟨y1, b, c, y2, ls, ?_⟩
    cases h : stoB m s with
    | false => unfold stoN; rw [h]; exact hV
    | true => exact Inv_sto hV h (by unfold stoN; rw [h, if_pos rfl, if_pos rfl])
theorem s_radar (γ : GE) {b c : Bool} {I : AI} {J : AJ} {ls : List Ln} (hV : Inv I J b ls) (r x f q : Int32) : PairI γ mX11_radar mX12_radar 4 1 [.int r, .int x, .int f, .int q] b c I J := by
  obtain ⟨⟨⟨l1, l2, l3, l4⟩, o2, o3, o4, o5, o6, o7, o8, o9, o10, o11⟩, ⟨m0, m1, m2, m3, m4, m5, m6, m7, m8, m9, m10, m11, m12, m13, m14⟩, hE⟩ := id hV
  refine ⟨bi (radB r x f q), fun b1 c1 I' J' => b = b1 ∧ c = c1 ∧ (radB r x f q = true → RdP I J (nv r) (nv x) (nv f) q I' J') ∧ (radB r x f q = false → I = I' ∧ J = J'), ct_post (fun rr S' I' J' z => ?_) (o_radar γ r x f q), fun b1 c1 I' J' z => ?_⟩
  · obtain ⟨z1, z2, z3, z4⟩ := z; exact ⟨z1, b, c, z2, rfl, rfl, z3, z4⟩
  · obtain ⟨rfl, rfl, z3, z4⟩ := z
    cases h : radB r x f q with
    | false =>
      obtain ⟨rfl, rfl⟩ := z4 h
      refine ct_post (fun rr S' I'' J'' y => ?_) (c_Mradar γ m0 r x f q)
      obtain ⟨y1, y2, rfl, rfl⟩ := y
      exact ⟨by rw [← y1, h], b, c, y2, ls, by unfold radN; rw [h]; exact hV⟩
    | true =>
      obtain ⟨rfl, w2, w3, w4, w5⟩ := z3 h
      have h2 := h
      unfold radB at h2
      simp only [Bool.and_eq_true] at h2
      obtain ⟨r0, hr0, rfl⟩ := in_rg (n := 2) h2.1 rfl (by decide)
      obtain ⟨x0, hx0, rfl⟩ := cell_rg h2.2.1
      obtain ⟨f0, hf0, rfl⟩ := in_rg (n := 11) h2.2.2.1 rfl (by decide)
      have hq0 := in_rg (n := 3) h2.2.2.2 rfl (by decide)
      have e1 : nv (nI r0) = r0 := nv_nI (by omega)
      have e2 : nv (nI x0) = x0 := nv_nI (by omega)
      have e3 : nv (nI f0) = f0 := nv_nI (by omega)
      rw [e1] at w2 w3 w4 w5 ⊢
      rw [e2, e3] at w3 w4
      refine ct_post (fun rr S' I'' J'' y => ?_) (c_Mradar γ (by rw [upI_ne (by decide), upI_ne (by omega), upI_ne (by omega)]; exact m0) (nI r0) (nI x0) (nI f0) q)
      obtain ⟨y1, y2, rfl, rfl⟩ := y
      refine ⟨by rw [← y1, h], b, c, y2, ls, ?_⟩
      unfold radN
      rw [h, if_pos rfl, e1]
      refine Inv_rad hV (r := r0) (x := x0) (f := f0) (q := q) hr0 hx0 hf0 hq0 ?_ ?_ ?_ ?_ ?_ ?_ ?_ ?_ w2 w3 w4 w5
      · intro k; unfold clB; rw [if_neg (by omega), upI_ne (by omega), upI_ne (by omega), upI_ne (by omega), upI_ne (by omega), upI_ne (by omega)]; simp [upI]
      · intro k; rw [clB_ne (by decide), upI_ne (by decide), upI_ne (by decide), upI_ne (by decide), upI_ix, upI_ne (by decide), upI_ne (by omega), upI_ne (by omega)]
      · intro k; rw [clB_ne (by decide), upI_ne (by decide), upI_ne (by decide), upI_ix, upI_ne (by decide), upI_ne (by decide), upI_ne (by omega), upI_ne (by omega)]
      · intro k; rw [clB_ne (by decide), upI_ne (by decide), upI_ix, upI_ne (by decide), upI_ne (by decide), upI_ne (by decide), upI_ne (by omega), upI_ne (by omega)]
      · intro k; rw [clB_ne (by decide), upI_ix, upI_ne (by decide), upI_ne (by decide), upI_ne (by decide), upI_ne (by decide), upI_ne (by omega), upI_ne (by omega)]
      · intro k; unfold clB; rw [if_pos rfl, upI_ne (by decide), upI_ne (by decide), upI_ne (by decide), upI_ne (by decide), upI_ne (by decide), upI_ne (by omega), upI_ne (by omega)]
      · intro k; rw [clB_ne (by decide), upI_ne (by decide), upI_ne (by decide), upI_ne (by decide), upI_ne (by decide), upI_ix, upI_ne (by omega), upI_ne (by omega)]
      · intro a q1 q2 q3; funext k; unfold clB; rw [if_neg (by omega), upI_ne (by omega), upI_ne (by omega), upI_ne (by omega), upI_ne (by omega), upI_ne (by omega), upI_ne (by omega), upI_ne (by omega)]
theorem s_blind (γ : GE) {b c : Bool} {I : AI} {J : AJ} {ls : List Ln} (hV : Inv I J b ls) (r x : Int32) (z : Bool) : PairI γ mX11_blind mX12_blind 4 2 [.int r, .int x, .int (bi z)] b c I J := by
  obtain ⟨⟨⟨l1, l2, l3, l4⟩, o2, o3, o4, o5, o6, o7, o8, o9, o10, o11⟩, ⟨m0, m1, m2, m3, m4, m5, m6, m7, m8, m9, m10, m11, m12, m13, m14⟩, hE⟩ := id hV
  refine ⟨bi (bliB I r x z), fun b1 c1 I' J' => b = b1 ∧ c = c1 ∧ (bliB I r x z = true → BlP I J (nv r) (nv x) z I' J') ∧ (bliB I r x z = false → I = I' ∧ J = J'), ct_post (fun rr S' I' J' z => ?_) (o_blind γ o2 m2 r x z), fun b1 c1 I' J' w => ?_⟩
  · obtain ⟨z1, z2, z3, z4⟩ := z; exact ⟨z1, b, c, z2, rfl, rfl, z3, z4⟩
  · obtain ⟨rfl, rfl, z3, z4⟩ := w
    cases h : bliB I r x z with
    | false =>
      obtain ⟨rfl, rfl⟩ := z4 h
      refine ct_post (fun rr S' I'' J'' y => ?_) (c_Mblind γ m0 r x z)
      obtain ⟨y1, y2, rfl, rfl⟩ := y
      exact ⟨by rw [← y1, h], b, c, y2, ls, by unfold bliN; rw [h]; exact hV⟩
    | true =>
      obtain ⟨rfl, w2, w3, w4, w5⟩ := z3 h
      have hq : eqM I (upI I 37 9 0) := fun a ha => upI_ne (by omega)
      have h2 := h
      unfold bliB hasR at h2
      simp only [Bool.and_eq_true, decide_eq_true_eq] at h2
      have hr := in_rg (n := 2) h2.1.1 rfl (by decide)
      refine ct_post (fun rr S' I'' J'' y => ?_) (c_Mblind γ (by rw [upI_ne (by decide)]; exact m0) r x z)
      obtain ⟨y1, y2, rfl, rfl⟩ := y
      rw [k_bliB hq, h] at y1
      refine ⟨y1, b, c, y2, ls, ?_⟩
      unfold bliN
      rw [k_bliB hq, h, if_pos rfl]
      exact Inv_bli hV (r := nv r) (x := nv x) (z := z) (rg_nv hr (by decide)).1 (cell_lt h2.2.1).1 h2.1.2 rfl w2 w3 w4 w5
theorem s_seen (γ : GE) {b c : Bool} {I : AI} {J : AJ} {ls : List Ln} (hV : Inv I J b ls) (r t x : Int32) : PairI γ mX11_seen mX12_seen 2 2 [.int r, .int t, .int x] b c I J := by
  obtain ⟨⟨⟨l1, l2, l3, l4⟩, o2, o3, o4, o5, o6, o7, o8, o9, o10, o11⟩, ⟨m0, m1, m2, m3, m4, m5, m6, m7, m8, m9, m10, m11, m12, m13, m14⟩, hE⟩ := id hV
  have hq : eqM I (seeO I r t x) := fun a ha => by
    unfold seeO; split
    · unfold addN; rw [upI_ne (by omega), upI_ne (by omega), upI_ne (by omega), upI_ne (by omega), upI_ne (by omega), upI_ne (by omega), upI_ne (by omega), upI_ne (by omega)]
    · rfl
  refine ⟨bi (seeB I r t x), fun b1 c1 I' J' => b = b1 ∧ c = c1 ∧ seeO I r t x = I' ∧ J = J', ct_post (fun rr S' I' J' z => ?_) (o_seen γ o10 o2 m2 o3 m3 m4 r t x), fun b1 c1 I' J' w => ?_⟩
  · obtain ⟨z1, z2, z3, z4⟩ := z; exact ⟨z1, b, c, z2, rfl, rfl, z3, z4⟩
  · obtain ⟨rfl, rfl, rfl, rfl⟩ := w
    have hM2 := MAll_eq hq hV.2.1
    refine ct_post (fun rr S' I'' J'' y => ?_) (c_Mseen γ hM2.1 hM2.2.2.2.1 r t x)
    obtain ⟨y1, y2, rfl, rfl⟩ := y
    rw [k_seeB hq] at y1
    refine ⟨y1, b, c, y2, ls, ?_⟩
    have e13 : ∀ Z : AI, Z 100 13 = Z 100 13 := fun _ => rfl
    unfold seeN
    rw [k_seeB hq]
    cases h : seeB I r t x with
    | false => unfold seeO; rw [h]; exact hV
    | true =>
      have h2 := h
      unfold seeB hasR telB at h2
      simp only [Bool.and_eq_true, decide_eq_true_eq] at h2
      rw [if_pos rfl]
      unfold seeO
      rw [h, if_pos rfl]
      have e13 : addN I (nv (I 100 13)) 0 (nv t) x r (I 100 5) 100 13 = I 100 13 := by unfold addN; rw [upI_ne (by decide), upI_ne (by decide), upI_ne (by decide), upI_ne (by decide), upI_ne (by decide), upI_ne (by decide), upI_ne (by decide), upI_ne (by decide)]
      have hn := past_vin m4 h2.2.2.1
      have r13 := rg_nv m3.1 (by decide)
      have n300 : nv (I 100 13) < 300 := by
        have : ¬ nv (I 100 13) = 300 := fun q => h2.2.2.2 (by rw [r13.2, q]; rfl)
        omega
      have ht : nv t < 720 := by have := (rg_nv m4 (by decide)).1; omega
      refine Inv_tel hV (n := nv (I 100 13)) (t := nv t) (k := 0) (s := 0) (r := r) (x := x) (d := 0) (v := r) n300 r13.2 ht ?_ ?_ ?_ ?_ ?_ ?_ ?_ ?_ ?_ ?_ ?_ ?_ ?_ ?_ ?_ ?_ (by decide) (by simp) ⟨0, by decide, rfl⟩ (in_rg (n := 2) h2.1.1 rfl (by decide)) (cell_rg h2.2.1) (fun q => absurd q (by decide))
      all_goals (unfold telN)
      all_goals (rw [e13])
      all_goals (try intro i)
      · unfold addN; simp [upI]
      · unfold addN; simp [upI]
      · unfold addN; simp [upI]
      · unfold addN; simp [upI]
      · unfold addN; simp [upI]
      · unfold addN; simp [upI]
      · unfold addN; simp [upI]
      · unfold addN; simp [upI]
      · unfold addN; simp [upI]; rw [← hn.2.2]
      · unfold addN; simp [upI]
      · unfold addN; simp [upI]
      · unfold addN; simp [upI]
      · unfold addN; simp [upI]
      · unfold addN; simp [upI, nI_succ]
      · rw [nI_succ, ← r13.2]; unfold addN; simp [upI]
      · intro q1 q2 q3; unfold addN; rw [upI_ne (by omega), upI_ne (by omega), upI_ne (by omega), upI_ne (by omega), upI_ne (by omega), upI_ne (by omega), upI_ne (by omega), upI_ne (by omega), upI_ne (by omega), upI_ne (by omega), upI_ne (by omega), upI_ne (by omega), upI_ne (by omega), upI_ne (by omega), upI_ne (by omega)]
theorem s_bare (γ : GE) {b c : Bool} {I : AI} {J : AJ} {ls : List Ln} (hV : Inv I J b ls) (r t : Int32) : PairI γ mX11_bare mX12_bare 2 2 [.int r, .int t] b c I J := by
  obtain ⟨⟨⟨l1, l2, l3, l4⟩, o2, o3, o4, o5, o6, o7, o8, o9, o10, o11⟩, ⟨m0, m1, m2, m3, m4, m5, m6, m7, m8, m9, m10, m11, m12, m13, m14⟩, hE⟩ := id hV
  have hq : eqM I (barO I r t) := fun a ha => by
    unfold barO; split
    · unfold addN; rw [upI_ne (by omega), upI_ne (by omega), upI_ne (by omega), upI_ne (by omega), upI_ne (by omega), upI_ne (by omega), upI_ne (by omega), upI_ne (by omega)]
    · rfl
  refine ⟨bi (barB I r t), fun b1 c1 I' J' => b = b1 ∧ c = c1 ∧ barO I r t = I' ∧ J = J', ct_post (fun rr S' I' J' z => ?_) (o_bare γ o10 o2 m2 o3 m3 m4 r t), fun b1 c1 I' J' w => ?_⟩
  · obtain ⟨z1, z2, z3, z4⟩ := z; exact ⟨z1, b, c, z2, rfl, rfl, z3, z4⟩
  · obtain ⟨rfl, rfl, rfl, rfl⟩ := w
    have hM2 := MAll_eq hq hV.2.1
    refine ct_post (fun rr S' I'' J'' y => ?_) (c_Mbare γ hM2.1 hM2.2.2.2.1 r t)
    obtain ⟨y1, y2, rfl, rfl⟩ := y
    rw [k_barB hq] at y1
    refine ⟨y1, b, c, y2, ls, ?_⟩
    have e13 : ∀ Z : AI, Z 100 13 = Z 100 13 := fun _ => rfl
    unfold barN
    rw [k_barB hq]
    cases h : barB I r t with
    | false => unfold barO; rw [h]; exact hV
    | true =>
      have h2 := h
      unfold barB hasR telB at h2
      simp only [Bool.and_eq_true, decide_eq_true_eq] at h2
      rw [if_pos rfl]
      unfold barO
      rw [h, if_pos rfl]
      have e13 : addN I (nv (I 100 13)) 3 (nv t) 0 r (I 100 5) 100 13 = I 100 13 := by unfold addN; rw [upI_ne (by decide), upI_ne (by decide), upI_ne (by decide), upI_ne (by decide), upI_ne (by decide), upI_ne (by decide), upI_ne (by decide), upI_ne (by decide)]
      have hn := past_vin m4 h2.2.1
      have r13 := rg_nv m3.1 (by decide)
      have n300 : nv (I 100 13) < 300 := by
        have : ¬ nv (I 100 13) = 300 := fun q => h2.2.2 (by rw [r13.2, q]; rfl)
        omega
      have ht : nv t < 720 := by have := (rg_nv m4 (by decide)).1; omega
      refine Inv_tel hV (n := nv (I 100 13)) (t := nv t) (k := 1) (s := 3) (r := r) (x := 0) (d := 0) (v := r) n300 r13.2 ht ?_ ?_ ?_ ?_ ?_ ?_ ?_ ?_ ?_ ?_ ?_ ?_ ?_ ?_ ?_ ?_ (by decide) (by simp) ⟨1, by decide, rfl⟩ (in_rg (n := 2) h2.1.1 rfl (by decide)) ⟨0, by decide, rfl⟩ (fun q => absurd q (by decide))
      all_goals (unfold telN)
      all_goals (rw [e13])
      all_goals (try intro i)
      · unfold addN; simp [upI]
      · unfold addN; simp [upI]
      · unfold addN; simp [upI]
      · unfold addN; simp [upI]
      · unfold addN; simp [upI]
      · unfold addN; simp [upI]
      · unfold addN; simp [upI]
      · unfold addN; simp [upI]
      · unfold addN; simp [upI]; rw [← hn.2.2]
      · unfold addN; simp [upI]
      · unfold addN; simp [upI]
      · unfold addN; simp [upI]
      · unfold addN; simp [upI]
      · unfold addN; simp [upI, nI_succ]
      · rw [nI_succ, ← r13.2]; unfold addN; simp [upI]
      · intro q1 q2 q3; unfold addN; rw [upI_ne (by omega), upI_ne (by omega), upI_ne (by omega), upI_ne (by omega), upI_ne (by omega), upI_ne (by omega), upI_ne (by omega), upI_ne (by omega), upI_ne (by omega), upI_ne (by omega), upI_ne (by omega), upI_ne (by omega), upI_ne (by omega), upI_ne (by omega), upI_ne (by omega)]
theorem s_word (γ : GE) {b c : Bool} {I : AI} {J : AJ} {ls : List Ln} (hV : Inv I J b ls) (t x d : Int32) : PairI γ mX11_word mX12_word 2 2 [.int t, .int x, .int d] b c I J := by
  obtain ⟨⟨⟨l1, l2, l3, l4⟩, o2, o3, o4, o5, o6, o7, o8, o9, o10, o11⟩, ⟨m0, m1, m2, m3, m4, m5, m6, m7, m8, m9, m10, m11, m12, m13, m14⟩, hE⟩ := id hV
  have hq : eqM I (worO I t x d) := fun a ha => by
    unfold worO; split
    · unfold addN; rw [upI_ne (by omega), upI_ne (by omega), upI_ne (by omega), upI_ne (by omega), upI_ne (by omega), upI_ne (by omega), upI_ne (by omega), upI_ne (by omega)]
    · rfl
  refine ⟨bi (worB I t x d), fun b1 c1 I' J' => b = b1 ∧ c = c1 ∧ worO I t x d = I' ∧ J = J', ct_post (fun rr S' I' J' z => ?_) (o_word γ o10 o2 m2 o3 m3 m4 t x d), fun b1 c1 I' J' w => ?_⟩
  · obtain ⟨z1, z2, z3, z4⟩ := z; exact ⟨z1, b, c, z2, rfl, rfl, z3, z4⟩
  · obtain ⟨rfl, rfl, rfl, rfl⟩ := w
    have hM2 := MAll_eq hq hV.2.1
    refine ct_post (fun rr S' I'' J'' y => ?_) (c_Mword γ hM2.1 hM2.2.2.2.1 t x d)
    obtain ⟨y1, y2, rfl, rfl⟩ := y
    rw [k_worB hq] at y1
    refine ⟨y1, b, c, y2, ls, ?_⟩
    have e13 : ∀ Z : AI, Z 100 13 = Z 100 13 := fun _ => rfl
    unfold worN
    rw [k_worB hq]
    cases h : worB I t x d with
    | false => unfold worO; rw [h]; exact hV
    | true =>
      have h2 := h
      unfold worB telB at h2
      simp only [Bool.and_eq_true, decide_eq_true_eq] at h2
      rw [if_pos rfl]
      unfold worO
      rw [h, if_pos rfl]
      by_cases hd : d = -1
      · rw [if_pos hd, if_pos hd]
        have e13 : addN I (nv (I 100 13)) 2 (nv t) x d (I 100 5) 100 13 = I 100 13 := by unfold addN; rw [upI_ne (by decide), upI_ne (by decide), upI_ne (by decide), upI_ne (by decide), upI_ne (by decide), upI_ne (by decide), upI_ne (by decide), upI_ne (by decide)]
        have hn := past_vin m4 h2.2.2.1
        have r13 := rg_nv m3.1 (by decide)
        have n300 : nv (I 100 13) < 300 := by
          have : ¬ nv (I 100 13) = 300 := fun q => h2.2.2.2 (by rw [r13.2, q]; rfl)
          omega
        have ht : nv t < 720 := by have := (rg_nv m4 (by decide)).1; omega
        refine Inv_tel hV (n := nv (I 100 13)) (t := nv t) (k := 3) (s := 2) (r := 0) (x := x) (d := d) (v := d) n300 r13.2 ht ?_ ?_ ?_ ?_ ?_ ?_ ?_ ?_ ?_ ?_ ?_ ?_ ?_ ?_ ?_ ?_ (by decide) (by simp) ⟨3, by decide, rfl⟩ ⟨0, by decide, rfl⟩ (cell_rg h2.1) (fun q => absurd q (by decide))
        all_goals (unfold telN)
        all_goals (rw [e13])
        all_goals (try intro i)
        · unfold addN; simp [upI]
        · unfold addN; simp [upI]
        · unfold addN; simp [upI]
        · unfold addN; simp [upI]
        · unfold addN; simp [upI]
        · unfold addN; simp [upI]
        · unfold addN; simp [upI]
        · unfold addN; simp [upI]
        · unfold addN; simp [upI]; rw [← hn.2.2]
        · unfold addN; simp [upI]
        · unfold addN; simp [upI]
        · unfold addN; simp [upI]
        · unfold addN; simp [upI]
        · unfold addN; simp [upI, nI_succ]
        · rw [nI_succ, ← r13.2]; unfold addN; simp [upI]
        · intro q1 q2 q3; unfold addN; rw [upI_ne (by omega), upI_ne (by omega), upI_ne (by omega), upI_ne (by omega), upI_ne (by omega), upI_ne (by omega), upI_ne (by omega), upI_ne (by omega), upI_ne (by omega), upI_ne (by omega), upI_ne (by omega), upI_ne (by omega), upI_ne (by omega), upI_ne (by omega), upI_ne (by omega)]
      · rw [if_neg hd, if_neg hd]
        have e13 : addN I (nv (I 100 13)) 1 (nv t) x d (I 100 5) 100 13 = I 100 13 := by unfold addN; rw [upI_ne (by decide), upI_ne (by decide), upI_ne (by decide), upI_ne (by decide), upI_ne (by decide), upI_ne (by decide), upI_ne (by decide), upI_ne (by decide)]
        have hd6 : (2 : Int32) = 2 → rg 6 d := fun _ => by
          have h5 := inB_t.mp h2.2.1
          have h0 : 0 ≤ d := Int32.not_lt.mp fun q => hd (Int32.le_antisymm (lt0_m1 q) h5.1)
          exact in_rg (n := 5) (inB_t.mpr ⟨h0, h5.2⟩) rfl (by decide)
        have hn := past_vin m4 h2.2.2.1
        have r13 := rg_nv m3.1 (by decide)
        have n300 : nv (I 100 13) < 300 := by
          have : ¬ nv (I 100 13) = 300 := fun q => h2.2.2.2 (by rw [r13.2, q]; rfl)
          omega
        have ht : nv t < 720 := by have := (rg_nv m4 (by decide)).1; omega
        refine Inv_tel hV (n := nv (I 100 13)) (t := nv t) (k := 2) (s := 1) (r := 0) (x := x) (d := d) (v := d) n300 r13.2 ht ?_ ?_ ?_ ?_ ?_ ?_ ?_ ?_ ?_ ?_ ?_ ?_ ?_ ?_ ?_ ?_ (by decide) (by simp) ⟨2, by decide, rfl⟩ ⟨0, by decide, rfl⟩ (cell_rg h2.1) hd6
        all_goals (unfold telN)
        all_goals (rw [e13])
        all_goals (try intro i)
        · unfold addN; simp [upI]
        · unfold addN; simp [upI]
        · unfold addN; simp [upI]
        · unfold addN; simp [upI]
        · unfold addN; simp [upI]
        · unfold addN; simp [upI]
        · unfold addN; simp [upI]
        · unfold addN; simp [upI]
        · unfold addN; simp [upI]; rw [← hn.2.2]
        · unfold addN; simp [upI]
        · unfold addN; simp [upI]
        · unfold addN; simp [upI]
        · unfold addN; simp [upI]
        · unfold addN; simp [upI, nI_succ]
        · rw [nI_succ, ← r13.2]; unfold addN; simp [upI]
        · intro q1 q2 q3; unfold addN; rw [upI_ne (by omega), upI_ne (by omega), upI_ne (by omega), upI_ne (by omega), upI_ne (by omega), upI_ne (by omega), upI_ne (by omega), upI_ne (by omega), upI_ne (by omega), upI_ne (by omega), upI_ne (by omega), upI_ne (by omega), upI_ne (by omega), upI_ne (by omega), upI_ne (by omega)]

