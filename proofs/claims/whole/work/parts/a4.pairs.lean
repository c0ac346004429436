/-! ===== pairs of calls that change nothing that is told ===== -/
theorem pairQ {γ : GE} {mo mm : MI} {d0 d1 : Nat} {as : List Value} {b c : Bool} {I : AI} {J : AJ} {ls : List Ln} (v : Int32) (h1 : Ct γ mo d0 0 0 (.ref 0 :: as) (SS b c) I J (fun r S' I' J' => some (.int v) = r ∧ SS b c = S' ∧ eqM I I' ∧ Inv I' J' b ls)) (h2 : ∀ I' J', eqM I I' → Inv I' J' b ls → Ct γ mm d1 0 0 (.ref 100 :: as) (SS b c) I' J' (fun r S' I'' J'' => some (.int v) = r ∧ SS b c = S' ∧ Inv I'' J'' b ls)) : PairI γ mo mm d0 d1 as b c I J :=
  ⟨v, fun b1 c1 I' J' => b = b1 ∧ c = c1 ∧ eqM I I' ∧ Inv I' J' b ls, ct_post (fun r S' I' J' z => ⟨z.1, b, c, z.2.1, rfl, rfl, z.2.2⟩) h1, fun b1 c1 I' J' z => by
    obtain ⟨rfl, rfl, z1, z2⟩ := z
    exact ct_post (fun r S' I'' J'' y => ⟨y.1, b, c, y.2.1, ls, y.2.2⟩) (h2 I' J' z1 z2)⟩
theorem pairL {γ : GE} {mo mm : MI} {d0 d1 : Nat} {as : List Value} {b c : Bool} {I : AI} {J : AJ} {ls : List Ln} (v : Int64) (h1 : Ct γ mo d0 0 0 (.ref 0 :: as) (SS b c) I J (fun r S' I' J' => some (.long v) = r ∧ SS b c = S' ∧ eqM I I' ∧ Inv I' J' b ls)) (h2 : ∀ I' J', eqM I I' → Inv I' J' b ls → Ct γ mm d1 0 0 (.ref 100 :: as) (SS b c) I' J' (fun r S' I'' J'' => some (.long v) = r ∧ SS b c = S' ∧ Inv I'' J'' b ls)) : PairJ γ mo mm d0 d1 as b c I J :=
  ⟨v, fun b1 c1 I' J' => b = b1 ∧ c = c1 ∧ eqM I I' ∧ Inv I' J' b ls, ct_post (fun r S' I' J' z => ⟨z.1, b, c, z.2.1, rfl, rfl, z.2.2⟩) h1, fun b1 c1 I' J' z => by
    obtain ⟨rfl, rfl, z1, z2⟩ := z
    exact ct_post (fun r S' I'' J'' y => ⟨y.1, b, c, y.2.1, ls, y.2.2⟩) (h2 I' J' z1 z2)⟩
theorem eqM_r {I : AI} : eqM I I := fun _ _ => rfl
theorem Inv_116 {I I' : AI} {J J' : AJ} {b : Bool} {ls : List Ln} (h : ∀ a, a ≠ 116 → I' a = I a) (hJ : ∀ a, a ≠ 117 → J' a = J a) (hV : Inv I J b ls) : Inv I' J' b ls := Inv_m (fun a q1 q2 q3 q4 => h a q2) (fun a q => hJ a (by omega)) hV
theorem Inv_H {I I' : AI} {J J' : AJ} {b : Bool} {ls : List Ln} (h : kI [37] I I') (hH : OHea I' J') (hJ : kJ [38, 39, 40, 41, 77] J J') (hV : Inv I J b ls) : Inv I' J' b ls :=
  Inv_q (fun a q1 q2 q3 q4 q5 q6 q7 q8 q9 q10 => h a (by simp; exact q2)) (by rw [h 65 (by decide)]) (fun a q => hJ a (by simp; omega)) hH (OWal_k (by rw [h 42 (by decide)]) (h 47 (by decide)) (h 48 (by decide)) hV.1.2.2.2.2.1) hV
theorem Inv_W {I I' : AI} {J J' : AJ} {b : Bool} {ls : List Ln} (h : WkP I J I' J') (hV : Inv I J b ls) : Inv I' J' b ls :=
  Inv_q (fun a q1 q2 q3 q4 q5 q6 q7 q8 q9 q10 => h.1 a (by simp; exact ⟨q2, q3, q4, q5, q6⟩)) (by rw [h.1 65 (by decide)]) (fun a q => h.2.2.2 a (by simp; omega)) h.2.1 h.2.2.1 hV
theorem Inv_62 {I : AI} {J J' : AJ} {b : Bool} {ls : List Ln} (h : kJ [62] J J') (hV : Inv I J b ls) : Inv I J' b ls :=
  Inv_q (fun a q1 q2 q3 q4 q5 q6 q7 q8 q9 q10 => rfl) rfl (fun a q => h a (by simp; omega)) (OHea_k rfl (fun _ _ _ => rfl) rfl rfl rfl (h 38 (by decide)) (h 39 (by decide)) hV.1.2.2.2.1) hV.1.2.2.2.2.1 hV
theorem s_of (γ : GE) {b c : Bool} {I : AI} {J : AJ} {ls : List Ln} (hV : Inv I J b ls) (x v : Int32) : PairI γ mX11_of mX12_of 2 3 [.int x, .int v] b c I J := by
  obtain ⟨⟨⟨l1, l2, l3, l4⟩, o2, o3, o4, o5, o6, o7, o8, o9, o10, o11⟩, ⟨m0, m1, m2, m3, m4, m5, m6, m7, m8, m9, m10, m11, m12, m13, m14⟩, hE⟩ := id hV
  refine ⟨ofV I x v, fun b1 c1 I' J' => b = b1 ∧ c = c1 ∧ I = I' ∧ Inv I J' b ls, ct_post (fun r S' I' J' z => ?_) (o_of γ l1 l4 o2 x v), fun b1 c1 I' J' z => ?_⟩
  · obtain ⟨z1, z2, rfl, rfl⟩ := z; exact ⟨z1, b, c, z2, rfl, rfl, rfl, hV⟩
  · obtain ⟨rfl, rfl, rfl, h2⟩ := z
    exact ct_post (fun r S' I'' J'' z => by obtain ⟨z1, z2, rfl, rfl⟩ := z; exact ⟨z1, b, c, z2, ls, h2⟩) (c_Mof γ m0 m2 x v)
theorem s_maybe (γ : GE) {b c : Bool} {I : AI} {J : AJ} {ls : List Ln} (hV : Inv I J b ls) (t k x : Int32) : PairI γ mX11_maybe mX12_maybe 5 4 [.int t, .int k, .int x] b c I J := by
  obtain ⟨⟨⟨l1, l2, l3, l4⟩, o2, o3, o4, o5, o6, o7, o8, o9, o10, o11⟩, ⟨m0, m1, m2, m3, m4, m5, m6, m7, m8, m9, m10, m11, m12, m13, m14⟩, hE⟩ := id hV
  refine pairQ (ls := ls) (mayV I t k x) (ct_post (fun r S' I' J' z => ?_) (o_maybe γ o10 (HBs_of hV) o4 m4 t k x)) (fun I' J' h1 h2 => ?_)
  · obtain ⟨z1, z2, z3, z4, z5⟩ := z; exact ⟨z1, z2, kI_eqM z3 (by decide), Inv_H z3 z4 z5 hV⟩
  · obtain ⟨⟨⟨n1, n2, n3, n4⟩, p2, p3, p4, p5, p6, p7, p8, p9, p10, p11⟩, ⟨q0, q1, q2, q3, q4, q5, q6, q7, q8, q9, q10, q11, q12, q13, q14⟩, hE1⟩ := id h2
    exact ct_post (fun r S' I'' J'' z => by obtain ⟨I1, ⟨z1, z2, rfl, rfl⟩, z3⟩ := z; exact ⟨by rw [← z1, k_mayV h1], z2, Inv_116 z3 (fun _ _ => rfl) h2⟩) (c_Mmaybe γ (MBase_of h2.2.1) t k x)
theorem s_count (γ : GE) {b c : Bool} {I : AI} {J : AJ} {ls : List Ln} (hV : Inv I J b ls) (t k w : Int32) : PairI γ mX11_count mX12_count 5 5 [.int t, .int k, .int w] b c I J := by
  obtain ⟨⟨⟨l1, l2, l3, l4⟩, o2, o3, o4, o5, o6, o7, o8, o9, o10, o11⟩, ⟨m0, m1, m2, m3, m4, m5, m6, m7, m8, m9, m10, m11, m12, m13, m14⟩, hE⟩ := id hV
  refine pairQ (ls := ls) (cntV I t k w) (ct_post (fun r S' I' J' z => ?_) (o_count γ o10 (HBs_of hV) o4 m4 t k w)) (fun I' J' h1 h2 => ?_)
  · obtain ⟨z1, z2, z3, z4, z5⟩ := z; exact ⟨z1, z2, kI_eqM z3 (by decide), Inv_H z3 z4 z5 hV⟩
  · obtain ⟨⟨⟨n1, n2, n3, n4⟩, p2, p3, p4, p5, p6, p7, p8, p9, p10, p11⟩, ⟨q0, q1, q2, q3, q4, q5, q6, q7, q8, q9, q10, q11, q12, q13, q14⟩, hE1⟩ := id h2
    exact ct_post (fun r S' I'' J'' z => by obtain ⟨I1, ⟨z1, z2, rfl, rfl⟩, z3⟩ := z; exact ⟨by rw [← z1, k_cntV h1], z2, Inv_116 z3 (fun _ _ => rfl) h2⟩) (c_Mcount γ (MBase_of h2.2.1) t k w)
theorem s_quarrel (γ : GE) {b c : Bool} {I : AI} {J : AJ} {ls : List Ln} (hV : Inv I J b ls) (k : Int32) : PairI γ mX11_quarrel mX12_quarrel 5 4 [.int k] b c I J := by
  obtain ⟨⟨⟨l1, l2, l3, l4⟩, o2, o3, o4, o5, o6, o7, o8, o9, o10, o11⟩, ⟨m0, m1, m2, m3, m4, m5, m6, m7, m8, m9, m10, m11, m12, m13, m14⟩, hE⟩ := id hV
  refine pairQ (ls := ls) (quaV I k) (ct_post (fun r S' I' J' z => ?_) (o_quarrel γ o10 (HBs_of hV) o4 m4 k)) (fun I' J' h1 h2 => ?_)
  · obtain ⟨z1, z2, z3, z4, z5⟩ := z; exact ⟨z1, z2, kI_eqM z3 (by decide), Inv_H z3 z4 z5 hV⟩
  · obtain ⟨⟨⟨n1, n2, n3, n4⟩, p2, p3, p4, p5, p6, p7, p8, p9, p10, p11⟩, ⟨q0, q1, q2, q3, q4, q5, q6, q7, q8, q9, q10, q11, q12, q13, q14⟩, hE1⟩ := id h2
    exact ct_post (fun r S' I'' J'' z => by obtain ⟨I1, ⟨z1, z2, rfl, rfl⟩, z3⟩ := z; exact ⟨by rw [← z1, k_quaV h1], z2, Inv_116 z3 (fun _ _ => rfl) h2⟩) (c_Mquarrel γ (MBase_of h2.2.1) k)
theorem s_paths (γ : GE) {b c : Bool} {I : AI} {J : AJ} {ls : List Ln} (hV : Inv I J b ls) (n : Int32) : PairJ γ mX11_paths mX12_paths 6 4 [.int n] b c I J := by
  obtain ⟨⟨⟨l1, l2, l3, l4⟩, o2, o3, o4, o5, o6, o7, o8, o9, o10, o11⟩, ⟨m0, m1, m2, m3, m4, m5, m6, m7, m8, m9, m10, m11, m12, m13, m14⟩, hE⟩ := id hV
  refine pairL (ls := ls) (pthR I n) (ct_post (fun r S' I' J' z => ?_) (o_paths γ o10 (HBs_of hV) o4 m4 m6.2 o5 l1 m1 n)) (fun I' J' h1 h2 => ?_)
  · obtain ⟨z1, z2, z3⟩ := z; exact ⟨z1, z2, kI_eqM z3.1 (by decide), Inv_W z3 hV⟩
  · obtain ⟨⟨⟨n1, n2, n3, n4⟩, p2, p3, p4, p5, p6, p7, p8, p9, p10, p11⟩, ⟨q0, q1, q2, q3, q4, q5, q6, q7, q8, q9, q10, q11, q12, q13, q14⟩, hE1⟩ := id h2
    exact ct_post (fun r S' I'' J'' z => by obtain ⟨z1, z2, z3, z4⟩ := z; exact ⟨by rw [← z1, k_pthR h1], z2, Inv_116 z3 z4 h2⟩) (c_Mpaths γ (MBase_of h2.2.1) n)
theorem s_missed (γ : GE) {b c : Bool} {I : AI} {J : AJ} {ls : List Ln} (hV : Inv I J b ls) (n z : Int32) : PairJ γ mX11_missed mX12_missed 6 4 [.int n, .int z] b c I J := by
  obtain ⟨⟨⟨l1, l2, l3, l4⟩, o2, o3, o4, o5, o6, o7, o8, o9, o10, o11⟩, ⟨m0, m1, m2, m3, m4, m5, m6, m7, m8, m9, m10, m11, m12, m13, m14⟩, hE⟩ := id hV
  refine pairL (ls := ls) (misR I n z) (ct_post (fun r S' I' J' z => ?_) (o_missed γ o10 (HBs_of hV) o4 m4 m6.2 o5 l1 m1 n z)) (fun I' J' h1 h2 => ?_)
  · obtain ⟨z1, z2, z3⟩ := z; exact ⟨z1, z2, kI_eqM z3.1 (by decide), Inv_W z3 hV⟩
  · obtain ⟨⟨⟨n1, n2, n3, n4⟩, p2, p3, p4, p5, p6, p7, p8, p9, p10, p11⟩, ⟨q0, q1, q2, q3, q4, q5, q6, q7, q8, q9, q10, q11, q12, q13, q14⟩, hE1⟩ := id h2
    exact ct_post (fun r S' I'' J'' z => by obtain ⟨z1, z2, z3, z4⟩ := z; exact ⟨by rw [← z1, k_misR h1], z2, Inv_116 z3 z4 h2⟩) (c_Mmissed γ (MBase_of h2.2.1) n z)
theorem s_box (γ : GE) {b c : Bool} {I : AI} {J : AJ} {ls : List Ln} (hV : Inv I J b ls) (n part w : Int32) : PairI γ mX11_box mX12_box 6 4 [.int n, .int part, .int w] b c I J := by
  obtain ⟨⟨⟨l1, l2, l3, l4⟩, o2, o3, o4, o5, o6, o7, o8, o9, o10, o11⟩, ⟨m0, m1, m2, m3, m4, m5, m6, m7, m8, m9, m10, m11, m12, m13, m14⟩, hE⟩ := id hV
  refine pairQ (ls := ls) (boxV I n part w) (ct_post (fun r S' I' J' z => ?_) (o_box γ o10 (HBs_of hV) o4 m4 m6.2 o5 l1 m1 l2 n part w)) (fun I' J' h1 h2 => ?_)
  · obtain ⟨z1, z2, z3⟩ := z; exact ⟨z1, z2, kI_eqM z3.1 (by decide), Inv_W z3 hV⟩
  · obtain ⟨⟨⟨n1, n2, n3, n4⟩, p2, p3, p4, p5, p6, p7, p8, p9, p10, p11⟩, ⟨q0, q1, q2, q3, q4, q5, q6, q7, q8, q9, q10, q11, q12, q13, q14⟩, hE1⟩ := id h2
    exact ct_post (fun r S' I'' J'' z => by obtain ⟨z1, z2, z3, z4⟩ := z; exact ⟨by rw [← z1, k_boxV h1], z2, Inv_116 z3 z4 h2⟩) (c_Mbox γ (MBase_of h2.2.1) n part w)
theorem s_fault (γ : GE) {b c : Bool} {I : AI} {J : AJ} {ls : List Ln} (hV : Inv I J b ls) (v : Int32) : PairI γ mX11_fault mX12_fault 1 0 [.int v] b c I J := by
  obtain ⟨⟨⟨l1, l2, l3, l4⟩, o2, o3, o4, o5, o6, o7, o8, o9, o10, o11⟩, ⟨m0, m1, m2, m3, m4, m5, m6, m7, m8, m9, m10, m11, m12, m13, m14⟩, hE⟩ := id hV
  refine ⟨fauV I v, fun b1 c1 I' J' => b = b1 ∧ c = c1 ∧ I = I' ∧ Inv I J' b ls, ct_post (fun r S' I' J' z => ?_) (o_fault γ o9 v), fun b1 c1 I' J' z => ?_⟩
  · obtain ⟨z1, z2, rfl, rfl⟩ := z; exact ⟨z1, b, c, z2, rfl, rfl, rfl, hV⟩
  · obtain ⟨rfl, rfl, rfl, h2⟩ := z
    exact ct_post (fun r S' I'' J'' z => by obtain ⟨z1, z2, rfl, rfl⟩ := z; exact ⟨z1, b, c, z2, ls, h2⟩) (c_Mfault γ m0 v)
theorem s_warning (γ : GE) {b c : Bool} {I : AI} {J : AJ} {ls : List Ln} (hV : Inv I J b ls) (x v : Int32) : PairI γ mX11_warning mX12_warning 1 1 [.int x, .int v] b c I J := by
  obtain ⟨⟨⟨l1, l2, l3, l4⟩, o2, o3, o4, o5, o6, o7, o8, o9, o10, o11⟩, ⟨m0, m1, m2, m3, m4, m5, m6, m7, m8, m9, m10, m11, m12, m13, m14⟩, hE⟩ := id hV
  refine ⟨wngV I x v, fun b1 c1 I' J' => b = b1 ∧ c = c1 ∧ I = I' ∧ Inv I J' b ls, ct_post (fun r S' I' J' z => ?_) (o_warning γ o10 o6 m7 m8 x v), fun b1 c1 I' J' z => ?_⟩
  · obtain ⟨z1, z2, rfl, rfl⟩ := z; exact ⟨z1, b, c, z2, rfl, rfl, rfl, hV⟩
  · obtain ⟨rfl, rfl, rfl, h2⟩ := z
    exact ct_post (fun r S' I'' J'' z => by obtain ⟨z1, z2, rfl, rfl⟩ := z; exact ⟨z1, b, c, z2, ls, h2⟩) (c_Mwarning γ m0 m7 m1 x v)
theorem s_look (γ : GE) {b c : Bool} {I : AI} {J : AJ} {ls : List Ln} (hV : Inv I J b ls) (v : Int32) : PairI γ mX11_look mX12_look 2 1 [.int v] b c I J := by
  obtain ⟨⟨⟨l1, l2, l3, l4⟩, o2, o3, o4, o5, o6, o7, o8, o9, o10, o11⟩, ⟨m0, m1, m2, m3, m4, m5, m6, m7, m8, m9, m10, m11, m12, m13, m14⟩, hE⟩ := id hV
  refine ⟨lkV I v, fun b1 c1 I' J' => b = b1 ∧ c = c1 ∧ I = I' ∧ Inv I J' b ls, ct_post (fun r S' I' J' z => ?_) (o_look γ o10 o6 m7 m8 o3 v), fun b1 c1 I' J' z => ?_⟩
  · obtain ⟨z1, z2, rfl, rfl⟩ := z; exact ⟨z1, b, c, z2, rfl, rfl, rfl, hV⟩
  · obtain ⟨rfl, rfl, rfl, h2⟩ := z
    exact ct_post (fun r S' I'' J'' z => by obtain ⟨z1, z2, rfl, rfl⟩ := z; exact ⟨z1, b, c, z2, ls, h2⟩) (c_Mlook γ m0 m7 m1 v)
theorem s_safe (γ : GE) {b c : Bool} {I : AI} {J : AJ} {ls : List Ln} (hV : Inv I J b ls) (t x : Int32) : PairI γ mX11_safe mX12_safe 2 3 [.int t, .int x] b c I J := by
  obtain ⟨⟨⟨l1, l2, l3, l4⟩, o2, o3, o4, o5, o6, o7, o8, o9, o10, o11⟩, ⟨m0, m1, m2, m3, m4, m5, m6, m7, m8, m9, m10, m11, m12, m13, m14⟩, hE⟩ := id hV
  refine ⟨safR I t x, fun b1 c1 I' J' => b = b1 ∧ c = c1 ∧ I = I' ∧ Inv I J' b ls, ct_post (fun r S' I' J' z => ?_) (o_safe γ o10 o6 m7 m8 l1 t x), fun b1 c1 I' J' z => ?_⟩
  · obtain ⟨z1, z2, rfl, z4⟩ := z; exact ⟨z1, b, c, z2, rfl, rfl, rfl, Inv_62 z4 hV⟩
  · obtain ⟨rfl, rfl, rfl, h2⟩ := z
    exact ct_post (fun r S' I'' J'' z => by obtain ⟨z1, z2, rfl, rfl⟩ := z; exact ⟨z1, b, c, z2, ls, h2⟩) (c_Msafe γ m0 m7 m1 t x)
theorem s_found (γ : GE) {b c : Bool} {I : AI} {J : AJ} {ls : List Ln} (hV : Inv I J b ls) (x y : Int32) : PairI γ mX11_found mX12_found 3 3 [.int x, .int y] b c I J := by
  obtain ⟨⟨⟨l1, l2, l3, l4⟩, o2, o3, o4, o5, o6, o7, o8, o9, o10, o11⟩, ⟨m0, m1, m2, m3, m4, m5, m6, m7, m8, m9, m10, m11, m12, m13, m14⟩, hE⟩ := id hV
  refine ⟨fndV I x y, fun b1 c1 I' J' => b = b1 ∧ c = c1 ∧ I = I' ∧ Inv I J' b ls, ct_post (fun r S' I' J' z => ?_) (o_found γ o10 o6 m7 m8 o7 m9 l1 m4 x y), fun b1 c1 I' J' z => ?_⟩
  · obtain ⟨z1, z2, rfl, z4⟩ := z; exact ⟨z1, b, c, z2, rfl, rfl, rfl, Inv_62 z4 hV⟩
  · obtain ⟨rfl, rfl, rfl, h2⟩ := z
    exact ct_post (fun r S' I'' J'' z => by obtain ⟨z1, z2, rfl, rfl⟩ := z; exact ⟨z1, b, c, z2, ls, h2⟩) (c_Mfound γ m0 m7 m1 m9 x y)
theorem s_entries (γ : GE) {b c : Bool} {I : AI} {J : AJ} {ls : List Ln} (hV : Inv I J b ls) (y w : Int32) : PairI γ mX11_entries mX12_entries 3 2 [.int y, .int w] b c I J := by
  obtain ⟨⟨⟨l1, l2, l3, l4⟩, o2, o3, o4, o5, o6, o7, o8, o9, o10, o11⟩, ⟨m0, m1, m2, m3, m4, m5, m6, m7, m8, m9, m10, m11, m12, m13, m14⟩, hE⟩ := id hV
  refine ⟨entV I y w, fun b1 c1 I' J' => b = b1 ∧ c = c1 ∧ I = I' ∧ Inv I J' b ls, ct_post (fun r S' I' J' z => ?_) (o_entries γ o10 o6 m7 m8 o7 m9 l1 m4 y w), fun b1 c1 I' J' z => ?_⟩
  · obtain ⟨z1, z2, rfl, rfl⟩ := z; exact ⟨z1, b, c, z2, rfl, rfl, rfl, hV⟩
  · obtain ⟨rfl, rfl, rfl, h2⟩ := z
    exact ct_post (fun r S' I'' J'' z => by obtain ⟨z1, z2, rfl, rfl⟩ := z; exact ⟨z1, b, c, z2, ls, h2⟩) (c_Mentries γ m0 m7 m1 m9 y w)
theorem s_posts (γ : GE) {b c : Bool} {I : AI} {J : AJ} {ls : List Ln} (hV : Inv I J b ls) (k w : Int32) : PairI γ mX11_posts mX12_posts 4 3 [.int k, .int w] b c I J := by
  obtain ⟨⟨⟨l1, l2, l3, l4⟩, o2, o3, o4, o5, o6, o7, o8, o9, o10, o11⟩, ⟨m0, m1, m2, m3, m4, m5, m6, m7, m8, m9, m10, m11, m12, m13, m14⟩, hE⟩ := id hV
  refine pairQ (ls := ls) (pstV I k w) (ct_post (fun r S' I' J' z => ?_) (o_posts γ o8 o2 l1 m1 k w)) (fun I' J' h1 h2 => ?_)
  · obtain ⟨z1, z2, z3, z4, z5⟩ := z; exact ⟨z1, z2, kI_eqM z3 (by decide), Inv_q (fun a q1 q2 q3 q4 q5 q6 q7 q8 q9 q10 => z3 a (by simp; exact q7)) z4 (fun a q => z5 a (by simp; omega)) (OHea_k (z3 37 (by decide)) (fun a q1 q2 => z3 a (by simp; omega)) (by rw [z3 100 (by decide)]) (by rw [z3 100 (by decide)]) (by rw [z3 100 (by decide)]) (z5 38 (by decide)) (z5 39 (by decide)) hV.1.2.2.2.1) (OWal_k (by rw [z3 42 (by decide)]) (z3 47 (by decide)) (z3 48 (by decide)) hV.1.2.2.2.2.1) hV⟩
  · obtain ⟨⟨⟨n1, n2, n3, n4⟩, p2, p3, p4, p5, p6, p7, p8, p9, p10, p11⟩, ⟨q0, q1, q2, q3, q4, q5, q6, q7, q8, q9, q10, q11, q12, q13, q14⟩, hE1⟩ := id h2
    exact ct_post (fun r S' I'' J'' z => by obtain ⟨z1, z2, rfl, rfl⟩ := z; exact ⟨by rw [← z1, k_pstV h1], z2, h2⟩) (c_Mposts γ q0 q10 q2 k w)
theorem OB0_of {I : AI} {J : AJ} {b : Bool} {ls : List Ln} (hV : Inv I J b ls) : OB0 I J (rA b) ls (mayB I (I 100 5)) :=
  ⟨hV.2.1.2.2.2.1, hV.2.1.2.1, hV.1.1.2.1, hV.1.1.2.2.2, hV.1.2.2.2.2.2.2.2.2.2.2, fun t => funext fun x => (now_kn hV.1.2.2.1 t x).symm, hV.1.2.2.2.2.2.2.2.2.2.1.2⟩
theorem OBy_of {I : AI} {J : AJ} {b : Bool} {ls : List Ln} {t : Nat} (hV : Inv I J b ls) (ht : t < 720) (et : I 100 5 = nI t) : OBy I J I I J t :=
  ⟨⟨HBs_of hV, hV.1.2.2.2.1, hV.1.2.2.2.2.2.1, hV.2.1.2.2.2.2.2.2.2.1, hV.2.1.2.2.2.2.2.2.2.2.1, ht, hV.1.2.2.2.2.2.2.2.2.2.1.1.trans et, et, hV.1.1.2.2.1⟩, kI_r, kJ_r, fun _ _ _ => rfl, rfl, rfl, rfl, rfl⟩
theorem s_asks79 (γ : GE) {c : Bool} {I : AI} {J : AJ} {ls : List Ln} (hV : Inv I J false ls) (y w : Int32) : PairI γ mX11_asks mX12_asks 6 4 [.int y, .int w] false c I J := by
  obtain ⟨⟨⟨l1, l2, l3, l4⟩, o2, o3, o4, o5, o6, o7, o8, o9, o10, o11⟩, ⟨m0, m1, m2, m3, m4, m5, m6, m7, m8, m9, m10, m11, m12, m13, m14⟩, hE⟩ := id hV
  obtain ⟨t, ht, et⟩ := m4
  refine pairQ (ls := ls) (asV I (mayB I (I 100 5)) ls y w) (ct_post (fun r S' I' J' z => ?_) (o_asks79 γ (OB0_of hV) (OBy_of hV ht et) y w)) (fun I' J' h1 h2 => ?_)
  · obtain ⟨z1, z2, z3, z4, z5⟩ := z
    exact ⟨z1, z2, kI_eqM z3 (by decide), Inv_q (fun a q1 q2 q3 q4 q5 q6 q7 q8 q9 q10 => z3 a (by simp; exact ⟨q2, q8, q9, q10⟩)) (by rw [z3 65 (by decide)]) (fun a q => z4 a (by simp; omega)) z5 (OWal_k (by rw [z3 42 (by decide)]) (z3 47 (by decide)) (z3 48 (by decide)) hV.1.2.2.2.2.1) hV⟩
  · obtain ⟨⟨⟨n1, n2, n3, n4⟩, p2, p3, p4, p5, p6, p7, p8, p9, p10, p11⟩, ⟨q0, q1, q2, q3, q4, q5, q6, q7, q8, q9, q10, q11, q12, q13, q14⟩, hE1⟩ := id h2
    exact ct_post (fun r S' I'' J'' z => by obtain ⟨z1, z2, ⟨G, rfl⟩, rfl⟩ := z; exact ⟨by rw [← z1, k_asV h1], z2, Inv_m (fun a w1 w2 w3 w4 => mX_f (by unfold scr; simp; omega)) (fun _ _ => rfl) h2⟩) (c_Masks γ (MBase_of h2.2.1) q1 q7.1 ls q13 y w)
theorem s_asks87 (γ : GE) {c : Bool} {I : AI} {J : AJ} {ls : List Ln} (hV : Inv I J true ls) (y w : Int32) : PairI γ mX11_asks mX12_asks 6 4 [.int y, .int w] true c I J := by
  obtain ⟨⟨⟨l1, l2, l3, l4⟩, o2, o3, o4, o5, o6, o7, o8, o9, o10, o11⟩, ⟨m0, m1, m2, m3, m4, m5, m6, m7, m8, m9, m10, m11, m12, m13, m14⟩, hE⟩ := id hV
  obtain ⟨t, ht, et⟩ := m4
  refine pairQ (ls := ls) (asV I (mayB I (I 100 5)) ls y w) (ct_post (fun r S' I' J' z => ?_) (o_asks87 γ (OB0_of hV) (OBy_of hV ht et) y w)) (fun I' J' h1 h2 => ?_)
  · obtain ⟨z1, z2, z3, z4, z5⟩ := z
    exact ⟨z1, z2, kI_eqM z3 (by decide), Inv_q (fun a q1 q2 q3 q4 q5 q6 q7 q8 q9 q10 => z3 a (by simp; exact ⟨q2, q8, q9, q10⟩)) (by rw [z3 65 (by decide)]) (fun a q => z4 a (by simp; omega)) z5 (OWal_k (by rw [z3 42 (by decide)]) (z3 47 (by decide)) (z3 48 (by decide)) hV.1.2.2.2.2.1) hV⟩
  · obtain ⟨⟨⟨n1, n2, n3, n4⟩, p2, p3, p4, p5, p6, p7, p8, p9, p10, p11⟩, ⟨q0, q1, q2, q3, q4, q5, q6, q7, q8, q9, q10, q11, q12, q13, q14⟩, hE1⟩ := id h2
    exact ct_post (fun r S' I'' J'' z => by obtain ⟨z1, z2, ⟨G, rfl⟩, rfl⟩ := z; exact ⟨by rw [← z1, k_asV h1], z2, Inv_m (fun a w1 w2 w3 w4 => mX_f (by unfold scr; simp; omega)) (fun _ _ => rfl) h2⟩) (c_Masks γ (MBase_of h2.2.1) q1 q7.1 ls q13 y w)
