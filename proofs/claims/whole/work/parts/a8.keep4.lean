/-! ===== what holds is kept: warnings, minutes, judge, rules ===== -/
theorem eqM_up {I I' : AI} (h : eqM I I') {a k : Nat} {v : Int32} : eqM (upI I a k v) (upI I' a k v) := fun c hc => funext fun d => by unfold upI; rw [h c hc]
theorem eqM_cpS {I I' : AI} (h : eqM I I') {w k : Nat} : eqM (cpS I w k) (cpS I' w k) := fun c hc => funext fun d => by unfold cpS; rw [h c hc, h 104 (by decide)]
theorem eqM_lif {I I' : AI} (h : eqM I I') (y : Int32) : eqM (lifN I y) (lifN I' y) := by
  have e : thr I' y (I' 100 5) = thr I y (I 100 5) := by rw [h 100 (by decide)]; exact k_thr h _ _
  unfold lifN
  rw [e]
  cases thr I y (I 100 5) with
  | none => exact h
  | some w => simp only; rw [h 100 (by decide)]; exact eqM_up h
theorem eqM_beg {I I' : AI} (h : eqM I I') (y m : Int32) : eqM (begN I y m) (begN I' y m) := by
  have e : thr I' y (I' 100 5) = thr I y (I 100 5) := by rw [h 100 (by decide)]; exact k_thr h _ _
  unfold begN
  rw [e]
  cases thr I y (I 100 5) with
  | none =>
    simp only
    rw [h 100 (by decide)]
    split
    · exact h
    · refine eqM_up (eqM_cpS ?_)
      unfold begX
      rw [h 100 (by decide), h 133 (by decide)]
      exact eqM_up (eqM_up (eqM_up (eqM_up (eqM_up h))))
  | some w =>
    simp only
    rw [h 100 (by decide), h 129 (by decide)]
    split
    · exact eqM_up h
    · exact h
theorem eqM_cty {I I' : AI} (h : eqM I I') (F : Nat → Nat → Bool) (ls : List Ln) (y : Int32) : eqM (ctyN I F ls y) (ctyN I' F ls y) := by
  unfold ctyN
  rw [k_ansV h]
  cases lnN (ansV I F y) ls 0 with
  | none => exact h
  | some k =>
    simp only
    cases ls[k]? with
    | none => exact h
    | some q =>
      simp only
      split
      · exact h
      · split
        · exact eqM_lif h y
        · exact eqM_beg h y _
theorem eqM_ctF (F : Nat → Nat → Bool) (ls : List Ln) : ∀ (j y : Nat) (I I' : AI), eqM I I' → eqM (ctF F ls I j y) (ctF F ls I' j y)
  | 0, _, _, _, h => h
  | j + 1, y, I, I', h => by unfold ctF; exact eqM_ctF F ls j (y + 1) _ _ (eqM_cty h F ls _)
theorem eqM_mg {I I' : AI} (h : eqM I I') (F : Nat → Nat → Bool) (ls : List Ln) : eqM (mgN I F ls) (mgN I' F ls) := by
  unfold mgN
  rw [h 100 (by decide)]
  refine eqM_up ?_
  split
  · exact h
  · exact eqM_ctF F ls 8 0 I I' h
theorem eqM_mn (F : Nat → Nat → Bool) (ls : List Ln) : ∀ (n : Nat) (I I' : AI), eqM I I' → eqM (mnN F ls I n) (mnN F ls I' n)
  | 0, _, _, h => h
  | n + 1, I, I', h => by unfold mnN; exact eqM_mn F ls n _ _ (eqM_mg h F ls)
theorem mg_fr {F : Nat → Nat → Bool} {ls : List Ln} {I : AI} {a k : Nat} (h : warC a = false) (h1 : a = 100 → ¬ k = 45 ∧ ¬ k = 5) : mgN I F ls a k = I a k := by
  unfold mgN
  have e : ∀ Z : AI, upI Z 100 5 (I 100 5 + 1) a k = Z a k := fun Z => by
    unfold upI; split
    · rename_i q; rw [if_neg (h1 q).2]
    · rfl
  rw [e]
  split
  · rfl
  · exact ctF_fr h (fun q => (h1 q).1) 8 0 I
theorem mn_fr {F : Nat → Nat → Bool} {ls : List Ln} {a k : Nat} (h : warC a = false) (h1 : a = 100 → ¬ k = 45 ∧ ¬ k = 5) : ∀ (n : Nat) (I : AI), mnN F ls I n a k = I a k
  | 0, _ => rfl
  | n + 1, I => by unfold mnN; rw [mn_fr h h1 n, mg_fr h h1]
theorem OWar_G {I M X : AI} {J : AJ} (h : OWarG I M J) (hx : ∀ a, 52 ≤ a → a ≤ 61 → X a = I a) (h100 : X 100 45 = M 100 45) (hm : ∀ a, 127 ≤ a → a ≤ 133 → X a = M a) : OWar X J := by
  refine ⟨by rw [hx 52 (by omega) (by omega), h100]; exact h.1, fun w hw => ?_, fun k hk => ?_⟩
  · rw [h100] at hw
    obtain ⟨a1, a2, a3, a4, a5, a6, a7, a8⟩ := h.2.1 w hw
    rw [hx 53 (by omega) (by omega), hx 54 (by omega) (by omega), hx 55 (by omega) (by omega), hx 56 (by omega) (by omega), hx 57 (by omega) (by omega), hm 127 (by omega) (by omega), hm 128 (by omega) (by omega), hm 129 (by omega) (by omega), hm 130 (by omega) (by omega), hm 131 (by omega) (by omega)]
    exact ⟨a1, a2, a3, a4, a5, a6, a7, fun x hx => by rw [a8 x hx, hsN_k (hm 132 (by omega) (by omega))]⟩
  · rw [hx 60 (by omega) (by omega), hx 61 (by omega) (by omega), hm 133 (by omega) (by omega), h100, laW_k (hm 127 (by omega) (by omega))]; exact h.2.2 k hk
theorem OTel_n {I X : AI} (h : ∀ a, (29 ≤ a ∧ a ≤ 36) ∨ (110 ≤ a ∧ a ≤ 115) → X a = I a) (h13 : X 100 13 = I 100 13) (h5 : I 100 5 ≤ X 100 5) (hO : OTel I) : OTel X := by
  have hm : mes X = mes I := funext fun i => by unfold mes; rw [h 110 (by omega), h 111 (by omega), h 114 (by omega)]
  have hl : lsT X = lsT I := funext fun t => funext fun n => lsT_k (h 112 (by omega)) t n
  unfold OTel
  rw [h 29 (by omega), h 30 (by omega), h 31 (by omega), h 32 (by omega), h 33 (by omega), h 34 (by omega), h 35 (by omega), h 36 (by omega), h 110 (by omega), h 112 (by omega), h 113 (by omega), h 115 (by omega), h13, hm, hl]
  exact ⟨hO.1, hO.2.1, hO.2.2.1, fun i hi => ⟨Int32.le_trans (hO.2.2.2 i hi).1 h5, (hO.2.2.2 i hi).2⟩⟩
theorem Inv_war {I I1 M X : AI} {J J1 : AJ} {b : Bool} {ls : List Ln} (hV : Inv I J b ls) (hI : kI [52, 53, 54, 55, 56, 57, 60] I I1) (hJ : kJ [58, 59, 62] J J1) (hG : OWarG I1 M J1) (hW : MWar M) (hD : WDis M) (hm : ∀ a k, warC a = false → (a = 100 → ¬ k = 45) → M a k = I a k) (hX1 : ∀ a, a < 100 → X a = I1 a) (hX2 : ∀ a, 100 ≤ a → X a = M a) : Inv X J1 b ls := by
  obtain ⟨⟨o1, o2, o3, o4, o5, o6, o7, o8, o9, o10, o11⟩, ⟨m0, m1, m2, m3, m4, m5, m6, m7, m8, m9, m10, m11, m12, m13, m14⟩, hE⟩ := id hV
  have hrA := rA_c b
  have g : ∀ a, ¬ (52 ≤ a ∧ a ≤ 60) → ¬ (127 ≤ a ∧ a ≤ 132) → a ≠ 100 → X a = I a := fun a q1 q2 q3 => by
    by_cases h : a < 100
    · rw [hX1 a h]; exact hI a (by simp; omega)
    · rw [hX2 a (by omega)]; exact funext fun k => hm a k (by unfold warC; simp; omega) (fun z => absurd z q3)
  have e : ∀ k, ¬ k = 45 → X 100 k = I 100 k := fun k hk => by rw [hX2 100 (by decide)]; exact hm 100 k rfl (fun _ => hk)
  have gj : ∀ a, ¬ (58 ≤ a ∧ a ≤ 62) → J1 a = J a := fun a w => hJ a (by simp; omega)
  have hO : OWar X J1 := OWar_G hG (fun a q1 q2 => hX1 a (by omega)) (by rw [hX2 100 (by decide)]) (fun a q1 q2 => hX2 a (by omega))
  have hMW : MWar X := MWar_k (fun a q1 q2 => hX2 a (by omega)) (by rw [hX2 100 (by decide)]) (by rw [hX2 100 (by decide)]) hW
  have hWD : WDis X := WDis_k (fun a q1 q2 => hX2 a (by omega)) (by rw [hX2 100 (by decide)]) (by rw [hX2 100 (by decide)]) hD
  exact ⟨⟨OLand_k (fun a w => (g a (by omega) (by omega) (by omega))) (fun a w1 w2 => (gj a (by omega))) o1, ORad_k (fun r hr => (g _ (by omega) (by omega) (by omega))) (fun a w1 w2 => (g a (by omega) (by omega) (by omega))) (fun a w1 w2 => (gj a (by omega))) o2, OTel_k (fun a w1 w2 => (g a (by omega) (by omega) (by omega))) (fun a w1 w2 => (g a (by omega) (by omega) (by omega))) (e 13 (by decide)) (e 5 (by decide)) o3, OHea_k (g 37 (by omega) (by omega) (by omega)) (fun a w1 w2 => (g a (by omega) (by omega) (by omega))) (e 6 (by decide)) (e 7 (by decide)) (e 13 (by decide)) (gj 38 (by omega)) (gj 39 (by omega)) o4, OWal_k (by rw [g 42 (by omega) (by omega) (by omega)]) (g 47 (by omega) (by omega) (by omega)) (g 48 (by omega) (by omega) (by omega)) o5, hO, OTru_k (g 64 (by omega) (by omega) (by omega)) (g 139 (by omega) (by omega) (by omega)) o7, OPos_k (by rw [g 65 (by omega) (by omega) (by omega)]) (g 140 (by omega) (by omega) (by omega)) (g 141 (by omega) (by omega) (by omega)) (g 142 (by omega) (by omega) (by omega)) (fun a w1 w2 => (gj a (by omega))) o8, OTap_k (by rw [g 95 (by omega) (by omega) (by omega)]; exact ⟨rfl, rfl, rfl⟩) (g 96 (by omega) (by omega) (by omega)) (g 118 (by omega) (by omega) (by omega)) ⟨(e 23 (by decide)), (e 42 (by decide)), (e 43 (by decide))⟩ o9, ONow_k (congrFun (g 0 (by decide) (by decide) (by decide)) 15) (congrFun (g 0 (by decide) (by decide) (by decide)) 14) (e 5 (by decide)) (e 44 (by decide)) o10, ORul_k (fun a w1 w2 => (g a (by omega) (by omega) (by omega))) o11⟩, ⟨(e 0 (by decide)).trans m0, MLand_k (fun a w1 w2 => (g a (by omega) (by omega) (by omega))) m1, MRad_k (fun a w1 w2 => (g a (by omega) (by omega) (by omega))) m2, MTel_k (fun a w1 w2 => (g a (by omega) (by omega) (by omega))) (e 13 (by decide)) m3, (by rw [e 5 (by decide)]; exact m4), (by rw [e 7 (by decide)]; exact m5), (by rw [e 6 (by decide)]; exact m6), hMW, hWD, (by unfold MTru; rw [g 139 (by omega) (by omega) (by omega)]; exact m9), (by unfold MPos; rw [g 140 (by omega) (by omega) (by omega), g 141 (by omega) (by omega) (by omega), g 142 (by omega) (by omega) (by omega)]; exact m10), (by unfold MTape; rw [e 23 (by decide), g 118 (by omega) (by omega) (by omega)]; exact m11), MWds_k (g 119 (by omega) (by omega) (by omega)) m12, MRul_k (e 29 (by decide)) (g 120 (by omega) (by omega) (by omega)) (g 121 (by omega) (by omega) (by omega)) (g 122 (by omega) (by omega) (by omega)) (g 123 (by omega) (by omega) (by omega)) (g 124 (by omega) (by omega) (by omega)) (g 125 (by omega) (by omega) (by omega)) m13, (by rw [e 44 (by decide)]; exact m14)⟩, (fun k hk => by rw [g 133 (by omega) (by omega) (by omega)]; exact hE k hk)⟩
theorem Inv_min {I I1 M X : AI} {J J1 : AJ} {b : Bool} {ls : List Ln} {t t1 : Nat} (hV : Inv I J b ls) (et : I 100 5 = nI t) (htt : t ≤ t1) (hB : OBy I J I1 M J1 t1) (hm : ∀ a k, warC a = false → (a = 100 → ¬ k = 45 ∧ ¬ k = 5) → M a k = I a k) (hX1 : ∀ a, a < 100 → X a = I1 a) (hX2 : ∀ a, 100 ≤ a → scr a = false → X a = M a) : Inv X J1 b ls := by
  obtain ⟨⟨o1, o2, o3, o4, o5, o6, o7, o8, o9, o10, o11⟩, ⟨m0, m1, m2, m3, m4, m5, m6, m7, m8, m9, m10, m11, m12, m13, m14⟩, hE⟩ := id hV
  have hrA := rA_c b
  obtain ⟨⟨f1, f2, f3, f4, f5, f6, f7, f8, f9⟩, b2, b3, b4, b5, b6, b7, b8⟩ := hB
  have g : ∀ a, (a < 127 ∨ 132 < a) ∧ a ≠ 0 ∧ a ≠ 37 ∧ ¬ (52 ≤ a ∧ a ≤ 60) ∧ a ≠ 76 ∧ a ≠ 86 ∧ a ≠ 94 ∧ a ≠ 100 ∧ a ≠ 116 ∧ (a < 134 ∨ 138 < a) → X a = I a := fun a q => by
    by_cases h : a < 100
    · rw [hX1 a h]; exact b2 a (by simp; omega)
    · rw [hX2 a (by omega) (by unfold scr; simp; omega)]; exact funext fun k => hm a k (by unfold warC; simp; omega) (fun z => by omega)
  have e : ∀ k, ¬ k = 45 ∧ ¬ k = 5 → X 100 k = I 100 k := fun k hk => by rw [hX2 100 (by decide) rfl]; exact hm 100 k rfl (fun _ => hk)
  have gj : ∀ a, ¬ (38 ≤ a ∧ a ≤ 41) ∧ ¬ (58 ≤ a ∧ a ≤ 62) ∧ a ≠ 77 → J1 a = J a := fun a w => b3 a (by simp; omega)
  have e5 : X 100 5 = nI t1 := by rw [hX2 100 (by decide) rfl]; exact f8
  have hO : OWar X J1 := OWar_G f3 (fun a q1 q2 => hX1 a (by omega)) (by rw [hX2 100 (by decide) rfl]) (fun a q1 q2 => hX2 a (by omega) (by unfold scr; simp; omega))
  have hMW : MWar X := MWar_k (fun a q1 q2 => hX2 a (by omega) (by unfold scr; simp; omega)) (by rw [hX2 100 (by decide) rfl]) (by rw [hX2 100 (by decide) rfl]) f4
  have hWD : WDis X := WDis_k (fun a q1 q2 => hX2 a (by omega) (by unfold scr; simp; omega)) (by rw [hX2 100 (by decide) rfl]) (by rw [hX2 100 (by decide) rfl]) f5
  have hnow : rg 720 (X 100 5) := by rw [e5]; exact ⟨t1, f6, rfl⟩
  have hN : ONow X := ⟨by rw [e5, hX1 0 (by decide)]; exact f7, by rw [e 44 (by decide), hX1 0 (by decide), b7]; exact o10.2⟩
  have hT : OTel X := OTel_n (fun a q => g a (by omega)) (e 13 (by decide)) (by rw [e5, et]; exact nI_le htt (by omega)) o3
  have hRad : ORad X J1 := ORad_k (fun r hr => g _ (by omega)) (fun a w1 w2 => g a (by omega)) (fun a w1 w2 => gj a (by omega)) o2
  have i100 : ∀ k, I1 100 k = I 100 k := fun k => by rw [b2 100 (by decide)]
  have hH : OHea X J1 := OHea_k (hX1 37 (by decide)) (fun a w1 w2 => (g a (by omega)).trans (b2 a (by simp; omega)).symm) ((e 6 (by decide)).trans (i100 6).symm) ((e 7 (by decide)).trans (i100 7).symm) ((e 13 (by decide)).trans (i100 13).symm) rfl rfl f2
  exact ⟨⟨OLand_k (fun a w => (g a (by omega))) (fun a w1 w2 => (gj a (by omega))) o1, hRad, hT, hH, OWal_k (by rw [g 42 (by omega)]) (g 47 (by omega)) (g 48 (by omega)) o5, hO, OTru_k (g 64 (by omega)) (g 139 (by omega)) o7, OPos_k (by rw [g 65 (by omega)]) (g 140 (by omega)) (g 141 (by omega)) (g 142 (by omega)) (fun a w1 w2 => (gj a (by omega))) o8, OTap_k (by rw [g 95 (by omega)]; exact ⟨rfl, rfl, rfl⟩) (g 96 (by omega)) (g 118 (by omega)) ⟨(e 23 (by decide)), (e 42 (by decide)), (e 43 (by decide))⟩ o9, hN, ORul_k (fun a w1 w2 => (g a (by omega))) o11⟩, ⟨(e 0 (by decide)).trans m0, MLand_k (fun a w1 w2 => (g a (by omega))) m1, MRad_k (fun a w1 w2 => (g a (by omega))) m2, MTel_k (fun a w1 w2 => (g a (by omega))) (e 13 (by decide)) m3, hnow, (by rw [e 7 (by decide)]; exact m5), (by rw [e 6 (by decide)]; exact m6), hMW, hWD, (by unfold MTru; rw [g 139 (by omega)]; exact m9), (by unfold MPos; rw [g 140 (by omega), g 141 (by omega), g 142 (by omega)]; exact m10), (by unfold MTape; rw [e 23 (by decide), g 118 (by omega)]; exact m11), MWds_k (g 119 (by omega)) m12, MRul_k (e 29 (by decide)) (g 120 (by omega)) (g 121 (by omega)) (g 122 (by omega)) (g 123 (by omega)) (g 124 (by omega)) (g 125 (by omega)) m13, (by rw [e 44 (by decide)]; exact m14)⟩, (fun k hk => by rw [g 133 (by omega)]; exact hE k hk)⟩
theorem k_rgt {I I' : AI} (h : eqM I I') (w : Nat) : rgt I' w = rgt I w := by
  unfold rgt; rw [h 127 (by decide), h 128 (by decide), h 129 (by decide)]; exact rgtN_k (h 139 (by decide)) (h 101 (by decide)) _ _ _
theorem eqM_jd {I I' : AI} (h : eqM I I') (w : Nat) : eqM (jdN I w) (jdN I' w) := by
  unfold jdN; rw [k_rgt h, h 127 (by decide), h 133 (by decide)]; exact eqM_up (eqM_up h)
theorem eqM_jdS : ∀ (j w n : Nat) (I I' : AI), eqM I I' → eqM (jdS j w n I).1 (jdS j w n I').1 ∧ (jdS j w n I').2 = (jdS j w n I).2
  | 0, _, _, _, _, h => ⟨h, rfl⟩
  | j + 1, w, n, I, I', h => by
    unfold jdS
    rw [show dueB I' w = dueB I w by unfold dueB; rw [h 129 (by decide), h 100 (by decide), h 131 (by decide)]]
    split
    · exact eqM_jdS j (w + 1) (n + 1) _ _ (eqM_jd h w)
    · exact eqM_jdS j (w + 1) n I I' h
theorem Inv_jdg {I I1 M X : AI} {J : AJ} {b : Bool} {ls : List Ln} (hV : Inv I J b ls) (hR : JR I I1 M) (hX1 : ∀ a, a < 100 → X a = I1 a) (hX2 : ∀ a, 100 ≤ a → X a = M a) : Inv X J b ls := by
  obtain ⟨⟨o1, o2, o3, o4, o5, o6, o7, o8, o9, o10, o11⟩, ⟨m0, m1, m2, m3, m4, m5, m6, m7, m8, m9, m10, m11, m12, m13, m14⟩, hE⟩ := id hV
  have hrA := rA_c b
  obtain ⟨j1, j2, j3, j4, j5⟩ := hR
  have g : ∀ a, a ≠ 57 ∧ a ≠ 61 ∧ a ≠ 131 ∧ a ≠ 133 → X a = I a := fun a q => by
    by_cases h : a < 100
    · rw [hX1 a h]; exact j1 a (by simp; omega)
    · rw [hX2 a (by omega)]; exact j2 a (by simp; omega)
  have e100 := g 100 (by omega)
  have hO : OWar X J := by
    refine ⟨by rw [g 52 (by omega), e100]; exact o6.1, fun w hw => ?_, fun k hk => ?_⟩
    · rw [e100] at hw
      obtain ⟨a1, a2, a3, a4, a5, a6, a7, a8⟩ := o6.2.1 w hw
      rw [g 53 (by omega), g 54 (by omega), g 55 (by omega), g 56 (by omega), hX1 57 (by omega), g 127 (by omega), g 128 (by omega), g 129 (by omega), g 130 (by omega), hX2 131 (by omega)]
      exact ⟨a1, a2, a3, a4, (j3 w hw).1, a6, a7, fun x hx => by rw [a8 x hx, hsN_k (g 132 (by omega))]⟩
    · rw [g 60 (by omega), hX1 61 (by omega), hX2 133 (by omega), e100, laW_k (g 127 (by omega))]; exact ⟨j4 k hk, (o6.2.2 k hk).2⟩
  have hE2 : MEar X := fun k hk => by rw [hX2 133 (by omega)]; exact j5 k hk
  have hMW : MWar X := by
    refine ⟨by rw [e100]; exact m7.1, by rw [e100]; exact m7.2.1, fun k hk => ?_, fun w hw => ?_⟩
    · obtain ⟨v, v1, v2, v3⟩ := hE2 k hk; exact ⟨v, by omega, v3⟩
    · rw [e100] at hw
      rw [g 127 (by omega), g 128 (by omega), g 129 (by omega), g 130 (by omega), hX2 131 (by omega)]
      obtain ⟨a1, a2, a3, a4, a5⟩ := m7.2.2.2 w hw
      exact ⟨a1, a2, a3, a4, (j3 w hw).2⟩
  exact ⟨⟨OLand_k (fun a w => (g a (by omega))) (fun a w1 w2 => (rfl)) o1, ORad_k (fun r hr => (g _ (by omega))) (fun a w1 w2 => (g a (by omega))) (fun a w1 w2 => (rfl)) o2, OTel_k (fun a w1 w2 => (g a (by omega))) (fun a w1 w2 => (g a (by omega))) (congrFun (g 100 (by omega)) 13) (congrFun (g 100 (by omega)) 5) o3, OHea_k (g 37 (by omega)) (fun a w1 w2 => (g a (by omega))) (congrFun (g 100 (by omega)) 6) (congrFun (g 100 (by omega)) 7) (congrFun (g 100 (by omega)) 13) (rfl) (rfl) o4, OWal_k (by rw [g 42 (by omega)]) (g 47 (by omega)) (g 48 (by omega)) o5, hO, OTru_k (g 64 (by omega)) (g 139 (by omega)) o7, OPos_k (by rw [g 65 (by omega)]) (g 140 (by omega)) (g 141 (by omega)) (g 142 (by omega)) (fun a w1 w2 => (rfl)) o8, OTap_k (by rw [g 95 (by omega)]; exact ⟨rfl, rfl, rfl⟩) (g 96 (by omega)) (g 118 (by omega)) ⟨(congrFun (g 100 (by omega)) 23), (congrFun (g 100 (by omega)) 42), (congrFun (g 100 (by omega)) 43)⟩ o9, ONow_k (congrFun (g 0 (by omega)) 15) (congrFun (g 0 (by omega)) 14) (congrFun (g 100 (by omega)) 5) (congrFun (g 100 (by omega)) 44) o10, ORul_k (fun a w1 w2 => (g a (by omega))) o11⟩, ⟨(congrFun (g 100 (by omega)) 0).trans m0, MLand_k (fun a w1 w2 => (g a (by omega))) m1, MRad_k (fun a w1 w2 => (g a (by omega))) m2, MTel_k (fun a w1 w2 => (g a (by omega))) (congrFun (g 100 (by omega)) 13) m3, (by rw [congrFun (g 100 (by omega)) 5]; exact m4), (by rw [congrFun (g 100 (by omega)) 7]; exact m5), (by rw [congrFun (g 100 (by omega)) 6]; exact m6), hMW, (by unfold WDis; rw [e100, g 127 (by omega), g 128 (by omega), g 129 (by omega)]; exact m8), (by unfold MTru; rw [g 139 (by omega)]; exact m9), (by unfold MPos; rw [g 140 (by omega), g 141 (by omega), g 142 (by omega)]; exact m10), (by unfold MTape; rw [congrFun (g 100 (by omega)) 23, g 118 (by omega)]; exact m11), MWds_k (g 119 (by omega)) m12, MRul_k (congrFun (g 100 (by omega)) 29) (g 120 (by omega)) (g 121 (by omega)) (g 122 (by omega)) (g 123 (by omega)) (g 124 (by omega)) (g 125 (by omega)) m13, (by rw [congrFun (g 100 (by omega)) 44]; exact m14)⟩, hE2⟩
