/-! ===== calls that change the state: what holds is kept (first half) ===== -/
theorem all_rg {f g : Nat → Bool} : ∀ n, (∀ i, i < n → f i = g i) → (List.range n).all f = (List.range n).all g
  | 0, _ => rfl
  | n + 1, h => by rw [List.range_succ, List.all_append, List.all_append, all_rg n (fun i hi => h i (by omega))]; simp only [List.all_cons, List.all_nil, h n (by omega)]
theorem alN_add {I X : AI} {kn n t x : Nat} (hk : kn ≤ n) (h : ∀ i, i < n → X 112 i = I 112 i ∧ allB X i x = allB I i x) : alN X kn t (n + 1) x = alN I kn t n x := by
  unfold alN
  rw [List.range_succ, List.all_append, all_rg n (g := fun i => !(decide (I 112 i = nI t) && decide (i < kn)) || allB I i x) (fun i hi => by rw [(h i hi).1, (h i hi).2])]
  rw [show List.all [n] (fun i => !(decide (X 112 i = nI t) && decide (i < kn)) || allB X i x) = true by
    simp only [List.all_cons, List.all_nil, decide_eq_false (show ¬ n < kn by omega), Bool.and_false]; rfl, Bool.and_true]
theorem mayK_add {I X : AI} {kn n : Nat} (hk : kn ≤ n) (en : nv (I 100 13) = n) (eX : nv (X 100 13) = n + 1) (e6 : X 100 6 = I 100 6) (e7 : X 100 7 = I 100 7) (h : ∀ i x, i < n → X 112 i = I 112 i ∧ allB X i x = allB I i x) : ∀ t x, mayK X kn t x = mayK I kn t x
  | 0, x => by unfold mayK; rw [e7, eX, en, alN_add hk (fun i hi => h i x hi)]
  | t + 1, x => by
    unfold mayK
    rw [e7, e6, eX, en, alN_add hk (fun i hi => h i x hi), show mayK X kn t = mayK I kn t from funext fun y => mayK_add hk en eX e6 e7 h t y]
theorem lsT_pre {I X : AI} {t : Int32} : ∀ n, (∀ i, i < n → X 112 i = I 112 i) → lsT X t n = lsT I t n
  | 0, _ => rfl
  | n + 1, h => by unfold lsT; rw [h n (by omega), lsT_pre n (fun i hi => h i (by omega))]
theorem Inv_tel {I X : AI} {J : AJ} {b : Bool} {ls : List Ln} (hV : Inv I J b ls) {n t : Nat} {k s r x d v : Int32} (hn : n < 300) (en : I 100 13 = nI n) (ht : t < 720)
    (x30 : ∀ i, X 30 i = if i = n then s else I 30 i) (x31 : ∀ i, X 31 i = if i = n then nI t else I 31 i) (x32 : ∀ i, X 32 i = if i = n then x else I 32 i) (x33 : ∀ i, X 33 i = if i = n then v else I 33 i) (x34 : ∀ i, X 34 i = if i = n then I 100 5 else I 34 i) (x35 : ∀ i, X 35 i = if i = n then I 36 t else I 35 i) (x110 : ∀ i, X 110 i = if i = n then k else I 110 i) (x111 : ∀ i, X 111 i = if i = n then r else I 111 i) (x112 : ∀ i, X 112 i = if i = n then nI t else I 112 i) (x113 : ∀ i, X 113 i = if i = n then x else I 113 i) (x114 : ∀ i, X 114 i = if i = n then d else I 114 i) (x115 : ∀ i, X 115 i = if i = n then I 100 5 else I 115 i) (x36 : ∀ i, X 36 i = if i = t then nI n else I 36 i) (x29 : X 29 7 = nI (n + 1)) (x100 : ∀ q, X 100 q = if q = 13 then nI (n + 1) else I 100 q) (g : ∀ a, ¬ (29 ≤ a ∧ a ≤ 36) → ¬ (110 ≤ a ∧ a ≤ 115) → a ≠ 100 → X a = I a)
    (hs : srt k = s) (hv : (if k = 0 ∨ k = 1 then r else d) = v) (rk : rg 4 k) (rr : rg 3 r) (rx : rg 96 x) (rd : k = 2 → rg 6 d) : Inv X J b ls := by
  obtain ⟨⟨o1, o2, o3, o4, o5, o6, o7, o8, o9, o10, o11⟩, ⟨m0, m1, m2, m3, m4, m5, m6, m7, m8, m9, m10, m11, m12, m13, m14⟩, hE⟩ := id hV
  have hrA := rA_c b
  have nn : nv (I 100 13) = n := by rw [en, nv_nI (by omega)]
  have xn : nv (X 100 13) = n + 1 := by rw [x100, if_pos rfl, nv_nI (by omega)]
  have e : ∀ q, ¬ q = 13 → X 100 q = I 100 q := fun q hq => by rw [x100, if_neg hq]
  have old : ∀ i, i < n → X 30 i = I 30 i ∧ X 31 i = I 31 i ∧ X 32 i = I 32 i ∧ X 33 i = I 33 i ∧ X 34 i = I 34 i ∧ X 35 i = I 35 i ∧ X 110 i = I 110 i ∧ X 111 i = I 111 i ∧ X 112 i = I 112 i ∧ X 113 i = I 113 i ∧ X 114 i = I 114 i ∧ X 115 i = I 115 i := fun i hi => by
    rw [x30, x31, x32, x33, x34, x35, x110, x111, x112, x113, x114, x115]
    have q : ¬ i = n := by omega
    exact ⟨if_neg q, if_neg q, if_neg q, if_neg q, if_neg q, if_neg q, if_neg q, if_neg q, if_neg q, if_neg q, if_neg q, if_neg q⟩
  have hl : ∀ y, lsT X y n = lsT I y n := fun y => lsT_pre n (fun i hi => (old i hi).2.2.2.2.2.2.2.2.1)
  have r5 := m4
  have hsee : ∀ q y, seesB X q y = seesB I q y := fun q y => by unfold seesB; rw [g 105 (by decide) (by decide) (by decide), g 106 (by decide) (by decide) (by decide), g 107 (by decide) (by decide) (by decide), g 109 (by decide) (by decide) (by decide)]
  have hall : ∀ i y, i < n → X 112 i = I 112 i ∧ allB X i y = allB I i y := fun i y hi => by
    obtain ⟨a1, a2, a3, a4, a5, a6, a7, a8, a9, a10, a11, a12⟩ := old i hi
    refine ⟨a9, ?_⟩
    unfold allB; rw [a7, a10, a8, a11, hsee, g 108 (by decide) (by decide) (by decide)]
  have hRad : ORad X J := fun q hq => by
    obtain ⟨h1, h2, h3, h4, h5⟩ := o2 q hq
    rw [g (17 + 4 * q) (by omega) (by omega) (by omega), g 105 (by decide) (by decide) (by decide), g 108 (by decide) (by decide) (by decide), g 109 (by decide) (by decide) (by decide), g 106 (by decide) (by decide) (by decide), g 107 (by decide) (by decide) (by decide)]
    exact ⟨h1, h2, cs_f (fun y _ => (hsee q y).symm) h3, h4, h5⟩
  have hMR : MRad X := by
    unfold MRad; rw [g 105 (by decide) (by decide) (by decide), g 108 (by decide) (by decide) (by decide), g 109 (by decide) (by decide) (by decide), g 106 (by decide) (by decide) (by decide), g 107 (by decide) (by decide) (by decide)]; exact m2
  have hMT : MTel X := by
    refine ⟨⟨n + 1, by omega, by rw [x100, if_pos rfl]⟩, fun i hi => ?_⟩
    rw [xn] at hi
    by_cases ei : i = n
    · rw [x110, x111, x112, x113, x114, x115, if_pos ei, if_pos ei, if_pos ei, if_pos ei, if_pos ei, if_pos ei]
      exact ⟨rk, rr, ⟨t, ht, rfl⟩, rx, rd, r5⟩
    · obtain ⟨a1, a2, a3, a4, a5, a6, a7, a8, a9, a10, a11, a12⟩ := old i (by omega)
      rw [a7, a8, a9, a10, a11, a12]; exact m3.2 i (by omega)
  have hTel : OTel X := by
    refine ⟨by rw [x29, x100, if_pos rfl], fun i hi => ?_, fun y hy => ?_, fun i hi => ?_⟩
    · rw [xn] at hi
      by_cases ei : i = n
      · subst ei
        have hm : mes X i = v := by unfold mes; rw [x110, x111, x114, if_pos rfl, if_pos rfl, if_pos rfl]; exact hv
        rw [hm, x30, x31, x32, x33, x34, x35, x110, x112, x113, x115]
        simp only [if_true, true_and]
        exact ⟨hs.symm, by rw [hl, o3.2.2.1 t ht, nn]⟩
      · have hi2 : i < n := by omega
        obtain ⟨a1, a2, a3, a4, a5, a6, a7, a8, a9, a10, a11, a12⟩ := old i hi2
        obtain ⟨c1, c2, c3, c4, c5, c6⟩ := o3.2.1 i (by omega)
        have hm : mes X i = mes I i := by unfold mes; rw [a7, a8, a11]
        rw [a1, a2, a3, a4, a5, a6, a7, a9, a10, a12, hm, lsT_pre (I := I) (X := X) i (fun u hu => (old u (by omega)).2.2.2.2.2.2.2.2.1)]
        exact ⟨c1, c2, c3, c4, c5, c6⟩
    · rw [x36, xn, lsT, x112, if_pos rfl, hl]
      by_cases ey : y = t
      · rw [if_pos ey, if_pos (by rw [ey])]; rfl
      · rw [if_neg ey, if_neg (fun z => ey (nI_inj (by omega) (by omega) z).symm), o3.2.2.1 y hy, nn]
    · rw [xn] at hi
      rw [e 5 (by decide)]
      by_cases ei : i = n
      · subst ei
        rw [x115, if_pos rfl]
        exact ⟨Int32.le_refl _, fun j hj => by rw [(old j hj).2.2.2.2.2.2.2.2.2.2.2]; exact (o3.2.2.2 j (by omega)).1⟩
      · rw [(old i (by omega)).2.2.2.2.2.2.2.2.2.2.2]
        exact ⟨(o3.2.2.2 i (by omega)).1, fun j hj => by rw [(old j (by omega)).2.2.2.2.2.2.2.2.2.2.2]; exact (o3.2.2.2 i (by omega)).2 j hj⟩
  have hHea : OHea X J := by
    obtain ⟨h1, h2, kk, km, a1, a2, a3, a4, a5⟩ := o4
    refine ⟨by rw [g 37 (by decide) (by decide) (by decide), e 6 (by decide)]; exact h1, by rw [g 37 (by decide) (by decide) (by decide), e 7 (by decide)]; exact h2, kk, km, by omega, a2, by rw [g 37 (by decide) (by decide) (by decide)]; exact a3, by rw [g 37 (by decide) (by decide) (by decide)]; exact a4, fun s hs => ?_⟩
    obtain ⟨r1, r2, r3⟩ := a5 s hs
    exact ⟨r1, r2, fun y hy => by rw [r3 y hy, mayK_add (by omega) nn xn (e 6 (by decide)) (e 7 (by decide)) hall]⟩
  exact ⟨⟨OLand_k (fun a w => (g a (by omega) (by omega) (by omega))) (fun a w1 w2 => (rfl)) o1, hRad, hTel, hHea, OWal_k (by rw [g 42 (by omega) (by omega) (by omega)]) (g 47 (by omega) (by omega) (by omega)) (g 48 (by omega) (by omega) (by omega)) o5, OWar_k (fun a w => (g a (by omega) (by omega) (by omega))) (e 45 (by decide)) (rfl) (rfl) o6, OTru_k (g 64 (by omega) (by omega) (by omega)) (g 139 (by omega) (by omega) (by omega)) o7, OPos_k (by rw [g 65 (by omega) (by omega) (by omega)]) (g 140 (by omega) (by omega) (by omega)) (g 141 (by omega) (by omega) (by omega)) (g 142 (by omega) (by omega) (by omega)) (fun a w1 w2 => (rfl)) o8, OTap_k (by rw [g 95 (by omega) (by omega) (by omega)]; exact ⟨rfl, rfl, rfl⟩) (g 96 (by omega) (by omega) (by omega)) (g 118 (by omega) (by omega) (by omega)) ⟨(e 23 (by decide)), (e 42 (by decide)), (e 43 (by decide))⟩ o9, ONow_k (congrFun (g 0 (by decide) (by decide) (by decide)) 15) (congrFun (g 0 (by decide) (by decide) (by decide)) 14) (e 5 (by decide)) (e 44 (by decide)) o10, ORul_k (fun a w1 w2 => (g a (by omega) (by omega) (by omega))) o11⟩, ⟨(e 0 (by decide)).trans m0, MLand_k (fun a w1 w2 => (g a (by omega) (by omega) (by omega))) m1, hMR, hMT, (by rw [e 5 (by decide)]; exact m4), (by rw [e 7 (by decide)]; exact m5), (by rw [e 6 (by decide)]; exact m6), MWar_k (fun a w1 w2 => (g a (by omega) (by omega) (by omega))) (e 45 (by decide)) (e 5 (by decide)) m7, WDis_k (fun a w1 w2 => (g a (by omega) (by omega) (by omega))) (e 45 (by decide)) (e 5 (by decide)) m8, (by unfold MTru; rw [g 139 (by omega) (by omega) (by omega)]; exact m9), (by unfold MPos; rw [g 140 (by omega) (by omega) (by omega), g 141 (by omega) (by omega) (by omega), g 142 (by omega) (by omega) (by omega)]; exact m10), (by unfold MTape; rw [e 23 (by decide), g 118 (by omega) (by omega) (by omega)]; exact m11), MWds_k (g 119 (by omega) (by omega) (by omega)) m12, MRul_k (e 29 (by decide)) (g 120 (by omega) (by omega) (by omega)) (g 121 (by omega) (by omega) (by omega)) (g 122 (by omega) (by omega) (by omega)) (g 123 (by omega) (by omega) (by omega)) (g 124 (by omega) (by omega) (by omega)) (g 125 (by omega) (by omega) (by omega)) m13, (by rw [e 44 (by decide)]; exact m14)⟩, (fun k hk => by rw [g 133 (by omega) (by omega) (by omega)]; exact hE k hk)⟩
