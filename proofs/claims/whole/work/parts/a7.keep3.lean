/-! ===== what holds is kept: radar, blind, land ===== -/
theorem Inv_rad {I X : AI} {J J1 : AJ} {b : Bool} {ls : List Ln} (hV : Inv I J b ls) {r x f : Nat} {q : Int32} (hr : r < 3) (hx : x < 96) (hf : f < 12) (hq : rg 4 q)
    (xr : ∀ k, X (17 + 4 * r) k = if k = 4 then q else if k = 3 then 1 else I (17 + 4 * r) k) (x5 : ∀ i, X 105 i = if i = r then 1 else I 105 i) (x6 : ∀ i, X 106 i = if i = r then nI x else I 106 i) (x7 : ∀ i, X 107 i = if i = r then nI f else I 107 i) (x8 : ∀ i, X 108 i = if i = r then q else I 108 i) (x9 : ∀ y, X 109 y = if 96 * r ≤ y ∧ y < 96 * r + 96 then 0 else I 109 y) (x37 : ∀ k, X 37 k = if k = 9 then 0 else I 37 k)
    (g : ∀ a, a ≠ 17 + 4 * r → a ≠ 37 → ¬ (105 ≤ a ∧ a ≤ 109) → X a = I a) (hJ : kJ [(18 + 4 * r), (19 + 4 * r), (20 + 4 * r)] J J1) (c1 : cs J1 (18 + 4 * r) (fun y => decide (farN y x ≤ f))) (c2 : cs J1 (19 + 4 * r) (fun y => decide (farN y x ≤ f))) (c3 : cs J1 (20 + 4 * r) (fun _ => false)) : Inv X J1 b ls := by
  obtain ⟨⟨o1, o2, o3, o4, o5, o6, o7, o8, o9, o10, o11⟩, ⟨m0, m1, m2, m3, m4, m5, m6, m7, m8, m9, m10, m11, m12, m13, m14⟩, hE⟩ := id hV
  have hrA := rA_c b
  have gj : ∀ a, ¬ (18 + 4 * r ≤ a ∧ a ≤ 20 + 4 * r) → J1 a = J a := fun a w => hJ a (by simp; omega)
  have hR : ORad X J1 := fun s hs => by
    by_cases e : s = r
    · subst e
      rw [xr, xr, x5, x8, x6, x7, if_pos rfl, if_pos rfl, if_pos rfl, if_pos rfl, if_neg (show ¬ 3 = 4 by decide), if_pos rfl, if_pos rfl]
      refine ⟨rfl, rfl, cs_f (fun y hy => ?_) c1, cs_f (fun y hy => ?_) c3, fun _ => cs_f (fun y hy => ?_) c2⟩
      · unfold seesB; rw [x5, x6, x7, x9, if_pos rfl, if_pos rfl, if_pos rfl, if_pos ⟨by omega, by omega⟩, nv_nI (by omega), nv_nI (by omega)]; simp
      · rw [x9, if_pos ⟨by omega, by omega⟩]; rfl
      · rw [nv_nI (by omega), nv_nI (by omega)]
    · obtain ⟨h1, h2, h3, h4, h5⟩ := o2 s hs
      have e9 : ∀ y, y < 96 → X 109 (96 * s + y) = I 109 (96 * s + y) := fun y hy => by rw [x9, if_neg (by omega)]
      rw [g (17 + 4 * s) (by omega) (by omega) (by omega), x5, x8, x6, x7, if_neg e, if_neg e, if_neg e, if_neg e]
      refine ⟨h1, h2, cs_f (fun y hy => ?_) (cs_k (gj _ (by omega)) h3), cs_f (fun y hy => ?_) (cs_k (gj _ (by omega)) h4), fun w => cs_k (gj _ (by omega)) (h5 w)⟩
      · unfold seesB; rw [x5, x6, x7, if_neg e, if_neg e, if_neg e, e9 y hy]
      · rw [e9 y hy]
  have hM : MRad X := by
    refine ⟨fun s hs => ?_, fun y hy => ?_⟩
    · rw [x5, x6, x7, x8]
      by_cases e : s = r
      · rw [if_pos e, if_pos e, if_pos e, if_pos e]; exact ⟨Or.inr rfl, ⟨x, hx, rfl⟩, ⟨f, hf, rfl⟩, hq⟩
      · rw [if_neg e, if_neg e, if_neg e, if_neg e]; exact m2.1 s hs
    · rw [x9]; split
      · exact Or.inl rfl
      · exact m2.2 y hy
  have hT : OTel X := OTel_k2 (fun a q => g a (by omega) (by omega) (by omega)) (congrFun (g 100 (by omega) (by decide) (by decide)) 13) (congrFun (g 100 (by omega) (by decide) (by decide)) 5) o3
  have hMT : MTel X := MTel_k2 (fun a q1 q2 => g a (by omega) (by omega) (by omega)) (congrFun (g 100 (by omega) (by decide) (by decide)) 13) m3
  have hH : OHea X J1 := OHea_0 (I := I) (by rw [x37, if_neg (by decide), g 100 (by omega) (by decide) (by decide)]; exact o4.1) (by rw [x37, if_neg (by decide), g 100 (by omega) (by decide) (by decide)]; exact o4.2.1) (by rw [x37, if_neg (by decide)]) (by rw [x37, if_pos rfl]) (congrFun (g 100 (by omega) (by decide) (by decide)) 13) o4
  exact ⟨⟨OLand_k (fun a w => (g a (by omega) (by omega) (by omega))) (fun a w1 w2 => (gj a (by omega))) o1, hR, hT, hH, OWal_k (by rw [g 42 (by omega) (by omega) (by omega)]) (g 47 (by omega) (by omega) (by omega)) (g 48 (by omega) (by omega) (by omega)) o5, OWar_k (fun a w => (g a (by omega) (by omega) (by omega))) (congrFun (g 100 (by omega) (by decide) (by decide)) 45) (gj 58 (by omega)) (gj 59 (by omega)) o6, OTru_k (g 64 (by omega) (by omega) (by omega)) (g 139 (by omega) (by omega) (by omega)) o7, OPos_k (by rw [g 65 (by omega) (by omega) (by omega)]) (g 140 (by omega) (by omega) (by omega)) (g 141 (by omega) (by omega) (by omega)) (g 142 (by omega) (by omega) (by omega)) (fun a w1 w2 => (gj a (by omega))) o8, OTap_k (by rw [g 95 (by omega) (by omega) (by omega)]; exact ⟨rfl, rfl, rfl⟩) (g 96 (by omega) (by omega) (by omega)) (g 118 (by omega) (by omega) (by omega)) ⟨(congrFun (g 100 (by omega) (by decide) (by decide)) 23), (congrFun (g 100 (by omega) (by decide) (by decide)) 42), (congrFun (g 100 (by omega) (by decide) (by decide)) 43)⟩ o9, ONow_k (congrFun (g 0 (by omega) (by decide) (by decide)) 15) (congrFun (g 0 (by omega) (by decide) (by decide)) 14) (congrFun (g 100 (by omega) (by decide) (by decide)) 5) (congrFun (g 100 (by omega) (by decide) (by decide)) 44) o10, ORul_k (fun a w1 w2 => (g a (by omega) (by omega) (by omega))) o11⟩, ⟨(congrFun (g 100 (by omega) (by decide) (by decide)) 0).trans m0, MLand_k (fun a w1 w2 => (g a (by omega) (by omega) (by omega))) m1, hM, hMT, (by rw [congrFun (g 100 (by omega) (by decide) (by decide)) 5]; exact m4), (by rw [congrFun (g 100 (by omega) (by decide) (by decide)) 7]; exact m5), (by rw [congrFun (g 100 (by omega) (by decide) (by decide)) 6]; exact m6), MWar_k (fun a w1 w2 => (g a (by omega) (by omega) (by omega))) (congrFun (g 100 (by omega) (by decide) (by decide)) 45) (congrFun (g 100 (by omega) (by decide) (by decide)) 5) m7, WDis_k (fun a w1 w2 => (g a (by omega) (by omega) (by omega))) (congrFun (g 100 (by omega) (by decide) (by decide)) 45) (congrFun (g 100 (by omega) (by decide) (by decide)) 5) m8, (by unfold MTru; rw [g 139 (by omega) (by omega) (by omega)]; exact m9), (by unfold MPos; rw [g 140 (by omega) (by omega) (by omega), g 141 (by omega) (by omega) (by omega), g 142 (by omega) (by omega) (by omega)]; exact m10), (by unfold MTape; rw [congrFun (g 100 (by omega) (by decide) (by decide)) 23, g 118 (by omega) (by omega) (by omega)]; exact m11), MWds_k (g 119 (by omega) (by omega) (by omega)) m12, MRul_k (congrFun (g 100 (by omega) (by decide) (by decide)) 29) (g 120 (by omega) (by omega) (by omega)) (g 121 (by omega) (by omega) (by omega)) (g 122 (by omega) (by omega) (by omega)) (g 123 (by omega) (by omega) (by omega)) (g 124 (by omega) (by omega) (by omega)) (g 125 (by omega) (by omega) (by omega)) m13, (by rw [congrFun (g 100 (by omega) (by decide) (by decide)) 44]; exact m14)⟩, (fun k hk => by rw [g 133 (by omega) (by omega) (by omega)]; exact hE k hk)⟩
theorem Inv_bli {I X : AI} {J J1 : AJ} {b : Bool} {ls : List Ln} (hV : Inv I J b ls) {r x : Nat} {z : Bool} (hr : r < 3) (hx : x < 96) (hi : ¬ I 105 r = 0) (eX : X = upI (upI I 37 9 0) 109 (96 * r + x) (bi z))
    (hJ : kJ [(18 + 4 * r), (20 + 4 * r)] J J1) (c1 : cs J1 (18 + 4 * r) (fun y => decide (farN y (nv (I 106 r)) ≤ nv (I 107 r)) && !(if y = x then z else decide (¬ I 109 (96 * r + y) = 0)))) (c2 : cs J1 (19 + 4 * r) (fun y => decide (farN y (nv (I 106 r)) ≤ nv (I 107 r)))) (c3 : cs J1 (20 + 4 * r) (fun y => if y = x then z else decide (¬ I 109 (96 * r + y) = 0))) : Inv X J1 b ls := by
  obtain ⟨⟨o1, o2, o3, o4, o5, o6, o7, o8, o9, o10, o11⟩, ⟨m0, m1, m2, m3, m4, m5, m6, m7, m8, m9, m10, m11, m12, m13, m14⟩, hE⟩ := id hV
  have hrA := rA_c b
  have g : ∀ a, a ≠ 37 → a ≠ 109 → X a = I a := fun a q1 q2 => by rw [eX, upI_ne q2, upI_ne q1]
  have x37 : ∀ k, X 37 k = if k = 9 then 0 else I 37 k := fun k => by rw [eX]; simp [upI]
  have x9 : ∀ y, X 109 y = if y = 96 * r + x then bi z else I 109 y := fun y => by rw [eX]; simp [upI]
  have gj : ∀ a, ¬ (18 + 4 * r ≤ a ∧ a ≤ 20 + 4 * r) → J1 a = J a := fun a w => hJ a (by simp; omega)
  have hR : ORad X J1 := fun s hs => by
    obtain ⟨h1, h2, h3, h4, h5⟩ := o2 s hs
    rw [g (17 + 4 * s) (by omega) (by omega), g 105 (by decide) (by decide), g 106 (by decide) (by decide), g 107 (by decide) (by decide), g 108 (by decide) (by decide)]
    by_cases e : s = r
    · subst e
      refine ⟨h1, h2, cs_f (fun y hy => ?_) c1, cs_f (fun y hy => ?_) c3, fun _ => c2⟩
      · unfold seesB; rw [g 105 (by decide) (by decide), g 106 (by decide) (by decide), g 107 (by decide) (by decide), x9, decide_eq_true hi, Bool.true_and]
        congr 1
        by_cases ey : y = x
        · rw [if_pos ey, if_pos (by omega)]; cases z <;> rfl
        · rw [if_neg ey, if_neg (by omega)]; by_cases w : I 109 (96 * s + y) = 0 <;> simp [w]
      · rw [x9]
        by_cases ey : y = x
        · rw [if_pos ey, if_pos (by omega)]; cases z <;> rfl
        · rw [if_neg ey, if_neg (by omega)]
    · have e9 : ∀ y, y < 96 → X 109 (96 * s + y) = I 109 (96 * s + y) := fun y hy => by rw [x9, if_neg (by omega)]
      refine ⟨h1, h2, cs_f (fun y hy => ?_) (cs_k (gj _ (by omega)) h3), cs_f (fun y hy => ?_) (cs_k (gj _ (by omega)) h4), fun w => cs_k (gj _ (by omega)) (h5 w)⟩
      · unfold seesB; rw [g 105 (by decide) (by decide), g 106 (by decide) (by decide), g 107 (by decide) (by decide), e9 y hy]
      · rw [e9 y hy]
  have hM : MRad X := by
    refine ⟨fun s hs => ?_, fun y hy => ?_⟩
    · rw [g 105 (by decide) (by decide), g 106 (by decide) (by decide), g 107 (by decide) (by decide), g 108 (by decide) (by decide)]; exact m2.1 s hs
    · rw [x9]; split
      · exact bi_bz z
      · exact m2.2 y hy
  have hT : OTel X := OTel_k2 (fun a q => g a (by omega) (by omega)) (congrFun (g 100 (by decide) (by decide)) 13) (congrFun (g 100 (by decide) (by decide)) 5) o3
  have hMT : MTel X := MTel_k2 (fun a q1 q2 => g a (by omega) (by omega)) (congrFun (g 100 (by decide) (by decide)) 13) m3
  have hH : OHea X J1 := OHea_0 (I := I) (by rw [x37, if_neg (by decide), g 100 (by decide) (by decide)]; exact o4.1) (by rw [x37, if_neg (by decide), g 100 (by decide) (by decide)]; exact o4.2.1) (by rw [x37, if_neg (by decide)]) (by rw [x37, if_pos rfl]) (congrFun (g 100 (by decide) (by decide)) 13) o4
  exact ⟨⟨OLand_k (fun a w => (g a (by omega) (by omega))) (fun a w1 w2 => (gj a (by omega))) o1, hR, hT, hH, OWal_k (by rw [g 42 (by omega) (by omega)]) (g 47 (by omega) (by omega)) (g 48 (by omega) (by omega)) o5, OWar_k (fun a w => (g a (by omega) (by omega))) (congrFun (g 100 (by decide) (by decide)) 45) (gj 58 (by omega)) (gj 59 (by omega)) o6, OTru_k (g 64 (by omega) (by omega)) (g 139 (by omega) (by omega)) o7, OPos_k (by rw [g 65 (by omega) (by omega)]) (g 140 (by omega) (by omega)) (g 141 (by omega) (by omega)) (g 142 (by omega) (by omega)) (fun a w1 w2 => (gj a (by omega))) o8, OTap_k (by rw [g 95 (by omega) (by omega)]; exact ⟨rfl, rfl, rfl⟩) (g 96 (by omega) (by omega)) (g 118 (by omega) (by omega)) ⟨(congrFun (g 100 (by decide) (by decide)) 23), (congrFun (g 100 (by decide) (by decide)) 42), (congrFun (g 100 (by decide) (by decide)) 43)⟩ o9, ONow_k (congrFun (g 0 (by decide) (by decide)) 15) (congrFun (g 0 (by decide) (by decide)) 14) (congrFun (g 100 (by decide) (by decide)) 5) (congrFun (g 100 (by decide) (by decide)) 44) o10, ORul_k (fun a w1 w2 => (g a (by omega) (by omega))) o11⟩, ⟨(congrFun (g 100 (by decide) (by decide)) 0).trans m0, MLand_k (fun a w1 w2 => (g a (by omega) (by omega))) m1, hM, hMT, (by rw [congrFun (g 100 (by decide) (by decide)) 5]; exact m4), (by rw [congrFun (g 100 (by decide) (by decide)) 7]; exact m5), (by rw [congrFun (g 100 (by decide) (by decide)) 6]; exact m6), MWar_k (fun a w1 w2 => (g a (by omega) (by omega))) (congrFun (g 100 (by decide) (by decide)) 45) (congrFun (g 100 (by decide) (by decide)) 5) m7, WDis_k (fun a w1 w2 => (g a (by omega) (by omega))) (congrFun (g 100 (by decide) (by decide)) 45) (congrFun (g 100 (by decide) (by decide)) 5) m8, (by unfold MTru; rw [g 139 (by omega) (by omega)]; exact m9), (by unfold MPos; rw [g 140 (by omega) (by omega), g 141 (by omega) (by omega), g 142 (by omega) (by omega)]; exact m10), (by unfold MTape; rw [congrFun (g 100 (by decide) (by decide)) 23, g 118 (by omega) (by omega)]; exact m11), MWds_k (g 119 (by omega) (by omega)) m12, MRul_k (congrFun (g 100 (by decide) (by decide)) 29) (g 120 (by omega) (by omega)) (g 121 (by omega) (by omega)) (g 122 (by omega) (by omega)) (g 123 (by omega) (by omega)) (g 124 (by omega) (by omega)) (g 125 (by omega) (by omega)) m13, (by rw [congrFun (g 100 (by decide) (by decide)) 44]; exact m14)⟩, (fun k hk => by rw [g 133 (by omega) (by omega)]; exact hE k hk)⟩
theorem cw_s (I : AI) (k m : Nat) : cwM I k (m + 1) = cwM I k m + (if nv (I 101 m) = k then nv (I 102 m) else 0) := by
  unfold cwM
  rw [pM]
  by_cases e : nv (I 101 m) = k
  · rw [decide_eq_true e, if_pos rfl, if_pos e]
  · rw [decide_eq_false e, if_neg (by decide), if_neg e, Nat.add_zero]
theorem cw_ge {I : AI} {x k : Nat} (hx : nv (I 101 x) = k) (m : Nat) (hm : x < m) : nv (I 102 x) ≤ cwM I k m := by
  induction m with
  | zero => omega
  | succ m ih =>
    rw [cw_s]
    by_cases e : m = x
    · subst e; rw [if_pos hx]; omega
    · have := ih (by omega); omega
theorem cw_lo {I X : AI} {x k : Nat} (h1 : ∀ y, ¬ y = x → X 101 y = I 101 y) (h2 : ∀ y, ¬ y = x → X 102 y = I 102 y) (m : Nat) (hm : m ≤ x) : cwM X k m = cwM I k m := by
  induction m with
  | zero => unfold cwM; rw [pM, pM]
  | succ m ih => rw [cw_s, cw_s, h1 m (by omega), h2 m (by omega), ih (by omega)]
theorem cw_hi {I X : AI} {x k p q : Nat} (h1 : ∀ y, ¬ y = x → X 101 y = I 101 y) (h2 : ∀ y, ¬ y = x → X 102 y = I 102 y) (hp : (if nv (I 101 x) = k then nv (I 102 x) else 0) = p) (hq : (if nv (X 101 x) = k then nv (X 102 x) else 0) = q) (d : Nat) : cwM X k (x + 1 + d) + p = cwM I k (x + 1 + d) + q := by
  induction d with
  | zero => rw [Nat.add_zero, cw_s, cw_s, hp, hq, cw_lo h1 h2 x (Nat.le_refl _)]; exact Nat.add_right_comm _ _ _
  | succ d ih =>
    rw [← Nat.add_assoc, cw_s, cw_s, h1 (x + 1 + d) (by omega), h2 (x + 1 + d) (by omega)]
    generalize (if nv (I 101 (x + 1 + d)) = k then nv (I 102 (x + 1 + d)) else 0) = w
    omega
theorem Inv_lan {I X : AI} {J J1 : AJ} {b : Bool} {ls : List Ln} (hV : Inv I J b ls) {x k0 k n s : Nat} (hx : x < 96) (hk : k < 8) (hn : n < 1000) (hs : s < 31) (hk0 : k0 < 8) (e0 : I 101 x = nI k0)
    (eX : X = upI (upI (upI (stlI I x k0 k (nI n) (nI s)) 101 x (nI k)) 102 x (nI n)) 103 x (nI s)) (eJ : J1 = setJ (setJ J (8 + k0) x false) (8 + k) x true) : Inv X J1 b ls := by
  obtain ⟨⟨o1, o2, o3, o4, o5, o6, o7, o8, o9, o10, o11⟩, ⟨m0, m1, m2, m3, m4, m5, m6, m7, m8, m9, m10, m11, m12, m13, m14⟩, hE⟩ := id hV
  have hrA := rA_c b
  have g : ∀ a, ¬ (2 ≤ a ∧ a ≤ 6) → ¬ (101 ≤ a ∧ a ≤ 103) → X a = I a := fun a q1 q2 => by
    rw [eX, upI_ne (by omega), upI_ne (by omega), upI_ne (by omega)]; unfold stlI
    rw [upI_ne (by omega), upI_ne (by omega), upI_ne (by omega), upI_ne (by omega), upI_ne (by omega)]
  have gj : ∀ a, ¬ (8 ≤ a ∧ a ≤ 15) → J1 a = J a := fun a w => by
    rw [eJ]; unfold setJ; rw [ldJ_ne (by omega), ldJ_ne (by omega)]
  have x1 : ∀ y, X 101 y = if y = x then nI k else I 101 y := fun y => by rw [eX]; simp [upI, stlI]
  have x2 : ∀ y, X 102 y = if y = x then nI n else I 102 y := fun y => by rw [eX]; simp [upI, stlI]
  have x3 : ∀ y, X 103 y = if y = x then nI s else I 103 y := fun y => by rw [eX]; simp [upI, stlI]
  have y1 : ∀ y, X 2 y = if y = x then nI k else I 2 y := fun y => by rw [eX]; simp [upI, stlI]
  have y2 : ∀ y, X 3 y = if y = x then nI n else I 3 y := fun y => by rw [eX]; simp [upI, stlI]
  have y3 : ∀ y, X 4 y = if y = x then nI s else I 4 y := fun y => by rw [eX]; simp [upI, stlI]
  have y6 : ∀ y, X 6 y = if y = k then (if k = k0 then I 6 k0 - I 3 x else I 6 k) + nI n else if y = k0 then I 6 k0 - I 3 x else I 6 y := fun y => by rw [eX]; simp [upI, stlI]
  obtain ⟨w, hw, ew⟩ := (m1 x hx).2.1
  have e3x : I 3 x = nI w := by rw [(o1.1 x hx).2.1]; exact ew
  have n0 : nv (I 101 x) = k0 := by rw [e0, nv_nI (by omega)]
  have nw : nv (I 102 x) = w := by rw [ew, nv_nI (by omega)]
  have hLd : OLd X := fun y hy => by
    rw [x1, x2, x3, y1, y2, y3]
    by_cases e : y = x
    · rw [if_pos e, if_pos e, if_pos e, if_pos e, if_pos e, if_pos e]; exact ⟨rfl, rfl, rfl⟩
    · rw [if_neg e, if_neg e, if_neg e, if_neg e, if_neg e, if_neg e]; exact o1.1 y hy
  have hCr : OCr X := fun y hy => by
    have hc := cw_hi (I := I) (X := X) (x := x) (k := y) (p := if k0 = y then w else 0) (q := if k = y then n else 0) (fun z hz => by rw [x1, if_neg hz]) (fun z hz => by rw [x2, if_neg hz]) (by rw [n0, nw]) (by rw [x1, x2, if_pos rfl, if_pos rfl, nv_nI (by omega), nv_nI (by omega)]) (95 - x)
    rw [show x + 1 + (95 - x) = 96 by omega] at hc
    have hy6 := o1.2.1 y hy
    rw [y6]
    have hge : y = k0 → w ≤ cwM I y 96 := fun e2 => by rw [← nw]; exact cw_ge (n0.trans e2.symm) 96 hx
    by_cases ek : y = k
    · rw [if_pos ek]
      rw [if_pos (show k = y from ek.symm)] at hc
      by_cases e2 : y = k0
      · have hg := hge e2
        rw [if_pos (show k0 = y from e2.symm)] at hc
        rw [if_pos (show k = k0 from ek.symm.trans e2), ← e2, hy6, e3x, nI_sb hg, nI_ad]
        congr 1; omega
      · rw [if_neg (show ¬ k0 = y from fun z => e2 z.symm)] at hc
        rw [if_neg (show ¬ k = k0 from fun z => e2 (ek.trans z)), ← ek, hy6, nI_ad]
        congr 1; omega
    · rw [if_neg ek]
      rw [if_neg (show ¬ k = y from fun z => ek z.symm)] at hc
      by_cases e2 : y = k0
      · have hg := hge e2
        rw [if_pos (show k0 = y from e2.symm)] at hc
        rw [if_pos e2, ← e2, hy6, e3x, nI_sb hg]
        congr 1; omega
      · rw [if_neg (show ¬ k0 = y from fun z => e2 z.symm)] at hc
        rw [if_neg e2, hy6]
        congr 1; omega
  have hL : OLand X J1 := by
    refine ⟨hLd, hCr, fun y hy => ?_, ?_⟩
    · rw [eJ]
      have q1 : cs (setJ J (8 + k0) x false) (8 + y) (fun z => if y = k0 then (if z = x then false else decide (I 101 z = nI y)) else decide (I 101 z = nI y)) := by
        by_cases e : y = k0
        · subst e; simp only [if_true]; exact cs_set (o1.2.2.1 y hy) hx false
        · simp only [if_neg e]; exact cs_ne (by omega) (o1.2.2.1 y hy)
      have q2 : cs (setJ (setJ J (8 + k0) x false) (8 + k) x true) (8 + y) (fun z => if y = k then (if z = x then true else (if y = k0 then (if z = x then false else decide (I 101 z = nI y)) else decide (I 101 z = nI y))) else (if y = k0 then (if z = x then false else decide (I 101 z = nI y)) else decide (I 101 z = nI y))) := by
        by_cases e : y = k
        · subst e; simp only [if_true]; exact cs_set q1 hx true
        · simp only [if_neg e]; exact cs_ne (by omega) q1
      refine cs_f (fun z hz => ?_) q2
      rw [x1]
      by_cases ez : z = x
      · subst ez
        simp only [if_true]
        by_cases ek : y = k
        · rw [if_pos ek, ek]; simp
        · rw [if_neg ek, decide_eq_false (fun q => ek (nI_inj (by omega) (by omega) q).symm)]
          by_cases e2 : y = k0
          · rw [if_pos e2]
          · rw [if_neg e2, e0]; exact decide_eq_false (fun q => e2 (nI_inj (by omega) (by omega) q).symm)
      · simp only [if_neg ez]
        by_cases ek : y = k
        · simp
        · simp
    · rw [g 104 (by decide) (by decide)]; exact cs_k (gj 7 (by decide)) o1.2.2.2
  have hM : MLand X := fun y hy => by
    rw [x1, x2, x3, g 104 (by decide) (by decide)]
    by_cases e : y = x
    · rw [if_pos e, if_pos e, if_pos e]; exact ⟨⟨k, hk, rfl⟩, ⟨n, hn, rfl⟩, ⟨s, hs, rfl⟩, (m1 y hy).2.2.2⟩
    · rw [if_neg e, if_neg e, if_neg e]; exact m1 y hy
  exact ⟨⟨hL, ORad_k (fun r hr => (g _ (by omega) (by omega))) (fun a w1 w2 => (g a (by omega) (by omega))) (fun a w1 w2 => (gj a (by omega))) o2, OTel_k (fun a w1 w2 => (g a (by omega) (by omega))) (fun a w1 w2 => (g a (by omega) (by omega))) (congrFun (g 100 (by decide) (by decide)) 13) (congrFun (g 100 (by decide) (by decide)) 5) o3, OHea_k (g 37 (by omega) (by omega)) (fun a w1 w2 => (g a (by omega) (by omega))) (congrFun (g 100 (by decide) (by decide)) 6) (congrFun (g 100 (by decide) (by decide)) 7) (congrFun (g 100 (by decide) (by decide)) 13) (gj 38 (by omega)) (gj 39 (by omega)) o4, OWal_k (by rw [g 42 (by omega) (by omega)]) (g 47 (by omega) (by omega)) (g 48 (by omega) (by omega)) o5, OWar_k (fun a w => (g a (by omega) (by omega))) (congrFun (g 100 (by decide) (by decide)) 45) (gj 58 (by omega)) (gj 59 (by omega)) o6, OTru_k (g 64 (by omega) (by omega)) (g 139 (by omega) (by omega)) o7, OPos_k (by rw [g 65 (by omega) (by omega)]) (g 140 (by omega) (by omega)) (g 141 (by omega) (by omega)) (g 142 (by omega) (by omega)) (fun a w1 w2 => (gj a (by omega))) o8, OTap_k (by rw [g 95 (by omega) (by omega)]; exact ⟨rfl, rfl, rfl⟩) (g 96 (by omega) (by omega)) (g 118 (by omega) (by omega)) ⟨(congrFun (g 100 (by decide) (by decide)) 23), (congrFun (g 100 (by decide) (by decide)) 42), (congrFun (g 100 (by decide) (by decide)) 43)⟩ o9, ONow_k (congrFun (g 0 (by decide) (by decide)) 15) (congrFun (g 0 (by decide) (by decide)) 14) (congrFun (g 100 (by decide) (by decide)) 5) (congrFun (g 100 (by decide) (by decide)) 44) o10, ORul_k (fun a w1 w2 => (g a (by omega) (by omega))) o11⟩, ⟨(congrFun (g 100 (by decide) (by decide)) 0).trans m0, hM, MRad_k (fun a w1 w2 => (g a (by omega) (by omega))) m2, MTel_k (fun a w1 w2 => (g a (by omega) (by omega))) (congrFun (g 100 (by decide) (by decide)) 13) m3, (by rw [congrFun (g 100 (by decide) (by decide)) 5]; exact m4), (by rw [congrFun (g 100 (by decide) (by decide)) 7]; exact m5), (by rw [congrFun (g 100 (by decide) (by decide)) 6]; exact m6), MWar_k (fun a w1 w2 => (g a (by omega) (by omega))) (congrFun (g 100 (by decide) (by decide)) 45) (congrFun (g 100 (by decide) (by decide)) 5) m7, WDis_k (fun a w1 w2 => (g a (by omega) (by omega))) (congrFun (g 100 (by decide) (by decide)) 45) (congrFun (g 100 (by decide) (by decide)) 5) m8, (by unfold MTru; rw [g 139 (by omega) (by omega)]; exact m9), (by unfold MPos; rw [g 140 (by omega) (by omega), g 141 (by omega) (by omega), g 142 (by omega) (by omega)]; exact m10), (by unfold MTape; rw [congrFun (g 100 (by decide) (by decide)) 23, g 118 (by omega) (by omega)]; exact m11), MWds_k (g 119 (by omega) (by omega)) m12, MRul_k (congrFun (g 100 (by decide) (by decide)) 29) (g 120 (by omega) (by omega)) (g 121 (by omega) (by omega)) (g 122 (by omega) (by omega)) (g 123 (by omega) (by omega)) (g 124 (by omega) (by omega)) (g 125 (by omega) (by omega)) m13, (by rw [congrFun (g 100 (by decide) (by decide)) 44]; exact m14)⟩, (fun k hk => by rw [g 133 (by omega) (by omega)]; exact hE k hk)⟩
