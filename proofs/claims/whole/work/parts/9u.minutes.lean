/-! ===== StormOffice: asks, obeyRules, minutes ===== -/
theorem sQ_ne {a0 : Nat} {I : AI} {g : Nat → Int32} {a : Nat} (h : a ≠ a0) : sQ a0 I g a = I a := by unfold sQ; rw [if_neg h]
theorem FA_g {I I' M : AI} {J : AJ} {t : Nat} (h : ∀ a, (16 ≤ a ∧ a ≤ 37) ∨ (52 ≤ a ∧ a ≤ 61) ∨ (100 ≤ a ∧ a ≤ 115) → I' a = I a) (h0 : I' 0 15 = I 0 15) (hF : FA I M J t) : FA I' M J t := by
  obtain ⟨a1, a2, a3, a4, a5, a6, a7, a8, a9⟩ := hF
  have e := h 100 (by omega)
  have hb : ∀ a, 105 ≤ a → a ≤ 115 → I' a = I a := fun a q1 q2 => h a (by omega)
  refine ⟨⟨OTel_k (fun a q1 q2 => h a (by omega)) hb (by rw [e]) (by rw [e]) a1.1, MTel_k hb (by rw [e]) a1.2.1, MRad_k hb a1.2.2.1, ORad_k (fun r hr => h _ (by omega)) hb (fun a q1 q2 => rfl) a1.2.2.2.1, by rw [e]; exact a1.2.2.2.2.1, by rw [e]; exact a1.2.2.2.2.2⟩, OHea_k (h 37 (by omega)) hb (by rw [e]) (by rw [e]) (by rw [e]) rfl rfl a2, OWarG_k (fun a q1 q2 => h a (by omega)) rfl rfl a3, a4, a5, a6, by rw [h0]; exact a7, a8, fun k hk => by rw [cyB_e (h 101 (by omega))]; exact a9 k hk⟩
theorem FA_s {I M : AI} {J : AJ} {t a0 : Nat} {g : Nat → Int32} (ha : a0 = 86 ∨ a0 = 94) (hF : FA I M J t) : FA (sQ a0 I g) M J t :=
  FA_g (fun a q => sQ_ne (by omega)) (by rw [sQ_ne (by omega)]) hF
theorem FA_w {I I' M M' : AI} {J J' : AJ} {t : Nat} (hI : kI [52, 53, 54, 55, 56, 57, 60] I I') (hJ : kJ [58, 59, 62] J J') (hG : OWarG I' M' J') (hW : MWar M') (hD : WDis M') (h5 : M' 100 5 = M 100 5) (hF : FA I M J t) : FA I' M' J' t := by
  obtain ⟨a1, a2, a3, a4, a5, a6, a7, a8, a9⟩ := hF
  have h : ∀ a, a < 52 ∨ 62 ≤ a → I' a = I a := fun a q => hI a (by simp; omega)
  have e := h 100 (by omega)
  have hb : ∀ a, 105 ≤ a → a ≤ 115 → I' a = I a := fun a q1 q2 => h a (by omega)
  refine ⟨⟨OTel_k (fun a q1 q2 => h a (by omega)) hb (by rw [e]) (by rw [e]) a1.1, MTel_k hb (by rw [e]) a1.2.1, MRad_k hb a1.2.2.1, ORad_k (fun r hr => h _ (by omega)) hb (fun a q1 q2 => hJ a (by simp; omega)) a1.2.2.2.1, by rw [e]; exact a1.2.2.2.2.1, by rw [e]; exact a1.2.2.2.2.2⟩, OHea_k (h 37 (by omega)) hb (by rw [e]) (by rw [e]) (by rw [e]) (hJ 38 (by decide)) (hJ 39 (by decide)) a2, hG, hW, hD, a6, by rw [h 0 (by omega)]; exact a7, h5.trans a8, fun k hk => by rw [cyB_e (h 101 (by omega))]; exact cs_k (hJ _ (by simp; omega)) (a9 k hk)⟩
theorem MWar_now {M : AI} {t : Nat} (ht : t < 720) (h : MWar M) : MWar (upI M 100 5 (nI t)) := by
  have e : ∀ a, a ≠ 100 → upI M 100 5 (nI t) a = M a := fun a q => upI_ne q
  unfold MWar
  rw [e 133 (by decide), e 127 (by decide), e 128 (by decide), e 129 (by decide), e 130 (by decide), e 131 (by decide), upI_s, show upI M 100 5 (nI t) 100 45 = M 100 45 from upI_n (by decide)]
  exact ⟨h.1, ⟨t, ht, rfl⟩, h.2.2⟩
theorem FA_n {I M : AI} {J : AJ} {t : Nat} (ht : t + 1 < 720) (hF : FA I M J t) : FA (upI I 0 15 (nI (t + 1))) (upI M 100 5 (nI (t + 1))) J (t + 1) := by
  obtain ⟨a1, a2, a3, a4, a5, a6, a7, a8, a9⟩ := hF
  have h : ∀ a, a ≠ 0 → upI I 0 15 (nI (t + 1)) a = I a := fun a q => upI_ne q
  have e := h 100 (by omega)
  have hb : ∀ a, 105 ≤ a → a ≤ 115 → upI I 0 15 (nI (t + 1)) a = I a := fun a q1 q2 => h a (by omega)
  refine ⟨⟨OTel_k (fun a q1 q2 => h a (by omega)) hb (by rw [e]) (by rw [e]) a1.1, MTel_k hb (by rw [e]) a1.2.1, MRad_k hb a1.2.2.1, ORad_k (fun r hr => h _ (by omega)) hb (fun a q1 q2 => rfl) a1.2.2.2.1, by rw [e]; exact a1.2.2.2.2.1, by rw [e]; exact a1.2.2.2.2.2⟩, OHea_k (h 37 (by omega)) hb (by rw [e]) (by rw [e]) (by rw [e]) rfl rfl a2, now_G a3, MWar_now ht a4, now_D a5 (by rw [a8]; exact nI_le (by omega) (by omega)), ht, upI_s, upI_s, fun k hk => by rw [cyB_e (h 101 (by omega))]; exact a9 k hk⟩
def OBy (I0 : AI) (J0 : AJ) (I M : AI) (J : AJ) (t : Nat) : Prop := FA I M J t ∧ kI [0, 37, 52, 53, 54, 55, 56, 57, 60, 76, 86, 94] I0 I ∧ kJ [38, 39, 40, 41, 58, 59, 62, 77] J0 J ∧ (∀ a, 101 ≤ a → a ≤ 115 → M a = I0 a) ∧ M 100 6 = I0 100 6 ∧ M 100 13 = I0 100 13 ∧ I 0 14 = I0 0 14 ∧ M 100 44 = I0 100 44
def OB0 (I0 : AI) (J0 : AJ) (A : Nat) (ls : List Ln) (F : Nat → Nat → Bool) : Prop := MTel I0 ∧ MLand I0 ∧ OCr I0 ∧ cs J0 7 (fun y => decide (¬ I0 104 y = 0)) ∧ ORul I0 A ls ∧ (∀ t, F t = mayK I0 (nv (I0 100 13)) t) ∧ I0 0 14 = I0 100 44
theorem OBy_f {I0 I I' M : AI} {J0 J J' : AJ} {t : Nat} (h1 : kI [37, 76] I I') (h2 : kJ [38, 39, 40, 41, 77] J J') (hF : FA I' M J' t) (h : OBy I0 J0 I M J t) : OBy I0 J0 I' M J' t :=
  ⟨hF, kI_t h.2.1 (kI_m (by decide) h1), kJ_t h.2.2.1 (kJ_m (by decide) h2), h.2.2.2.1, h.2.2.2.2.1, h.2.2.2.2.2.1, by rw [k3_ne h1 (by decide) (by decide)]; exact h.2.2.2.2.2.2.1, h.2.2.2.2.2.2.2⟩
theorem OBy_s {I0 I M : AI} {J0 J : AJ} {t a0 : Nat} {g : Nat → Int32} (ha : a0 = 86 ∨ a0 = 94) (h : OBy I0 J0 I M J t) : OBy I0 J0 (sQ a0 I g) M J t :=
  ⟨FA_s ha h.1, kI_t h.2.1 (kI_m (by rcases ha with rfl | rfl <;> decide) sQ_k), h.2.2.1, h.2.2.2.1, h.2.2.2.2.1, h.2.2.2.2.2.1, by rw [sQ_ne (by omega)]; exact h.2.2.2.2.2.2.1, h.2.2.2.2.2.2.2⟩
theorem OBy_ans {I0 I M : AI} {J0 J : AJ} {t A k : Nat} {ls : List Ln} {F : Nat → Nat → Bool} (h0 : OB0 I0 J0 A ls F) (h : OBy I0 J0 I M J t) (hk : k < 8) : ∀ q, q < 9 → aN I M t k q = ansV M F (nI k) q := by
  have g : ∀ a, 100 ≤ a → I a = I0 a := fun a q => h.2.1 a (by simp; omega)
  have hb : ∀ a, 105 ≤ a → a ≤ 115 → I a = I0 a := fun a q1 q2 => g a (by omega)
  refine ans_eq hk h.1.2.2.2.2.2.1 (MTel_k hb (by rw [g 100 (by omega)]) h0.1) (MLand_k (fun a q1 q2 => g a (by omega)) h0.2.1) (OCr_k (fun a q => h.2.1 a (by simp; omega)) h0.2.2.1) (fun a q1 q2 => (h.2.2.2.1 a q1 q2).trans (g a (by omega)).symm) (by rw [g 100 (by omega)]; exact h.2.2.2.2.1) (by rw [g 100 (by omega)]; exact h.2.2.2.2.2.1) h.1.2.2.2.2.2.2.2.1 ?_
  rw [h0.2.2.2.2.2.1 t, g 100 (by omega)]
  exact (funext fun x => mayK_k hb (by rw [g 100 (by omega)]) (by rw [g 100 (by omega)]) (by rw [g 100 (by omega)]) _ t x).symm
theorem OBy_rul {I0 I M : AI} {J0 J : AJ} {t A : Nat} {ls : List Ln} {F : Nat → Nat → Bool} (hA : A = 79 ∨ A = 87) (h0 : OB0 I0 J0 A ls F) (h : OBy I0 J0 I M J t) : ORul I A ls :=
  ORul_k (fun a q1 q2 => h.2.1 a (by simp; omega)) h0.2.2.2.2.1
theorem IsG_fr {I M I' : AI} {J J' : AJ} {k : Nat} {m : Int32} {f : Nat → Bool} (hP : IsG I M J k m f I' J') : kI [52, 53, 54, 55, 56, 57, 60] I I' ∧ kJ [58, 59, 62] J J' := by
  unfold IsG at hP
  split at hP
  · obtain ⟨rfl, rfl⟩ := hP; exact ⟨kI_up (by decide), kJ_r⟩
  · rcases hP with ⟨-, rfl, rfl⟩ | ⟨-, rfl, hp⟩
    · exact ⟨kI_r, kJ_r⟩
    · refine ⟨?_, hp.1⟩
      unfold opnI
      exact kI_t (kI_t (kI_t (kI_t (kI_t (kI_t (kI_up (by decide)) (kI_up (by decide))) (kI_up (by decide))) (kI_up (by decide))) (kI_up (by decide))) (kI_up (by decide))) (kI_up (by decide))
theorem stoG_fr {I M : AI} {y : Int32} : kI [52, 53, 54, 55, 56, 57, 60] I (stoG I M y) := by
  unfold stoG; split
  · exact kI_r
  · exact kI_up (by decide)
theorem OBy_w {I0 I I' M M' : AI} {J0 J J' : AJ} {t : Nat} (h : OBy I0 J0 I M J t) (hI : kI [52, 53, 54, 55, 56, 57, 60] I I') (hJ : kJ [58, 59, 62] J J') (hG : OWarG I' M' J') (hW : MWar M') (hD : WDis M') (hf : ∀ a k, warC a = false → (a = 100 → ¬ k = 45) → M' a k = M a k) : OBy I0 J0 I' M' J' t :=
  ⟨FA_w hI hJ hG hW hD (hf 100 5 rfl (fun _ => by decide)) h.1, kI_t h.2.1 (kI_m (by decide) hI), kJ_t h.2.2.1 (kJ_m (by decide) hJ), fun a q1 q2 => (funext fun k => hf a k (by unfold warC; simp; omega) (fun z => by omega)).trans (h.2.2.2.1 a q1 q2), (hf 100 6 rfl (fun _ => by decide)).trans h.2.2.2.2.1, (hf 100 13 rfl (fun _ => by decide)).trans h.2.2.2.2.2.1, by rw [hI 0 (by decide)]; exact h.2.2.2.2.2.2.1, (hf 100 44 rfl (fun _ => by decide)).trans h.2.2.2.2.2.2.2⟩
theorem OBy_lif {I0 I M : AI} {J0 J : AJ} {t : Nat} (h : OBy I0 J0 I M J t) (y : Int32) : OBy I0 J0 (stoG I M y) (lifN M y) J t :=
  OBy_w h stoG_fr kJ_r (lift_G h.1.2.2.1 y) (MWar_lif h.1.2.2.2.1 y) (lift_D h.1.2.2.2.2.1 y) (fun a k h1 _ => lif_fr y h1)
theorem OBy_iss {I0 I I' M : AI} {J0 J J' : AJ} {t k : Nat} {m : Int32} (h : OBy I0 J0 I M J t) (hk : k < 8) (hm : rg 61 m) (hP : IsG I M J k m (fun y => decide (¬ I0 104 y = 0)) I' J') : OBy I0 J0 I' (begN M (nI k) m) J' t := by
  rw [← h.2.2.2.1 104 (by omega) (by omega)] at hP
  refine OBy_w h (IsG_fr hP).1 (IsG_fr hP).2 (issue_G h.1.2.2.1 hk h.1.2.2.2.1 hP) (MWar_beg h.1.2.2.2.1 _ m (ctyB_nI hk) hm) (beg_D h.1.2.2.2.2.1 hk h.1.2.2.2.1 ?_) (fun a k h1 h2 => beg_fr _ m h1 h2)
  obtain ⟨z, hz, rfl⟩ := hm
  rw [h.1.2.2.2.2.2.2.2.1, nI_ad]
  exact nI_le (by omega) (by have := h.1.2.2.2.2.2.1; omega)
theorem OBy_s7 {I0 I M : AI} {J0 J : AJ} {t A : Nat} {ls : List Ln} {F : Nat → Nat → Bool} (h0 : OB0 I0 J0 A ls F) (h : OBy I0 J0 I M J t) : cs J 7 (fun y => decide (¬ I0 104 y = 0)) := cs_k (h.2.2.1 7 (by decide)) h0.2.2.2.1
theorem OBy_n {I0 I M : AI} {J0 J : AJ} {t : Nat} (h : OBy I0 J0 I M J t) (ht : t + 1 < 720) : OBy I0 J0 (upI I 0 15 (I 0 15 + 1)) (upI M 100 5 (M 100 5 + 1)) J (t + 1) := by
  rw [h.1.2.2.2.2.2.2.1, h.1.2.2.2.2.2.2.2.1, ← nI_succ]
  exact ⟨FA_n ht h.1, kI_t h.2.1 (kI_up (by decide)), h.2.2.1, fun a q1 q2 => (upI_ne (by omega)).trans (h.2.2.2.1 a q1 q2), (upI_n (by decide)).trans h.2.2.2.2.1, (upI_n (by decide)).trans h.2.2.2.2.2.1, (upI_n (by decide)).trans h.2.2.2.2.2.2.1, (upI_n (by decide)).trans h.2.2.2.2.2.2.2⟩
theorem spn_clM {h : Nat → Int32} {c : Cd} : spnV h c = clM (valC h c) := by
  unfold spnV clM
  generalize valC h c = v
  by_cases h1 : v < 1
  · rw [if_pos h1, if_pos (Int32.lt_trans h1 (by decide)), if_neg (fun z => absurd (Int32.lt_trans h1 z) Int32.lt_irrefl)]
  · rw [if_neg h1]
    by_cases h6 : (60 : Int32) < v
    · rw [if_pos h6, if_neg (fun z => absurd (Int32.lt_trans h6 z) Int32.lt_irrefl), if_pos (by decide)]
    · rw [if_neg h6]
      by_cases e : v < 60
      · rw [if_pos e]
        by_cases q : (1 : Int32) < v
        · rw [if_pos q]
        · rw [if_neg q]; exact (Int32.le_antisymm (Int32.not_lt.mp h1) (Int32.not_lt.mp q))
      · rw [if_neg e, if_pos (by decide)]; exact Int32.le_antisymm (Int32.not_lt.mp e) (Int32.not_lt.mp h6)
theorem ctF_nil {F : Nat → Nat → Bool} : ∀ (j y : Nat) (M : AI), ctF F [] M j y = M
  | 0, _, _ => rfl
  | j + 1, y, M => by unfold ctF; rw [ctF_nil j]; rfl
theorem o_fillX (γ : GE) {b c : Bool} {I M : AI} {J : AJ} {t k : Nat} (hk : k < 8) (hF : FA I M J t) {Y : Int32} (eY : Y = nI k) : Ct γ mX11_fillAnswers 5 0 0 [.ref 0, .int Y] (SS b c) I J (fun rt S' I' J' => none = rt ∧ (SS b c) = S' ∧ kI [37, 76] I I' ∧ kJ [38, 39, 40, 41, 77] J J' ∧ FA I' M J' t ∧ ∀ q, q < 9 → I' 76 q = aN I M t k q) := by
  subst eY; exact o_fill γ hk hF
theorem asV_9 {I : AI} {F : Nat → Nat → Bool} {ls : List Ln} {y w : Int32} (h1 : ctyB y = true) (h2 : inB w 0 9 = true) (h3 : w = 9) : asV I F ls y w = bsI (lnN (ansV I F y) ls 0) := by
  unfold asV; rw [h1, h2]; subst h3; rfl
theorem asV_q {I : AI} {F : Nat → Nat → Bool} {ls : List Ln} {y w : Int32} (h1 : ctyB y = true) (h2 : inB w 0 9 = true) (h3 : ¬ w = 9) : ∃ q, q < 9 ∧ w = nI q ∧ asV I F ls y w = ansV I F y q := by
  have h9 : ¬ (9 : Int32) ≤ w := fun z => h3 (Int32.le_antisymm (inB_t.mp h2).2 z)
  obtain ⟨q, hq, rfl⟩ := w9 h2 h9
  refine ⟨q, hq, rfl, ?_⟩
  unfold asV; rw [h1, h2, show (true && true) = true from rfl, if_pos rfl, if_pos (Int32.not_le.mp h9), nv_nI (by omega)]
theorem o_asks79 (γ : GE) {c : Bool} {I : AI} {J : AJ} {t : Nat} {ls : List Ln} (h0 : OB0 I J 79 ls (mayB I (I 100 5))) (h : OBy I J I I J t) (y w : Int32) : Ct γ mX11_asks 6 0 0 [.ref 0, .int y, .int w] (SS false c) I J (fun rt S' I' J' => some (.int (asV I (mayB I (I 100 5)) ls y w)) = rt ∧ (SS false c) = S' ∧ kI [37, 76, 86, 94] I I' ∧ kJ [38, 39, 40, 41, 77] J J' ∧ OHea I' J') := by
  refine ct_of okX11_asks (L := [some (.ref 0), some (.int y), some (.int w)]) (Nat.le_of_ble_eq_true rfl) rfl ?_
  refine r_run okX11_asks 1 (cs := []) (σ' := (1, [some (.ref 0), some (.int y), some (.int w)], [.int y], (SS false c), I, J, 0, 0)) rfl trivial ?_
  refine r_callS okX11_asks okX11_isCounty [.int y] [] rfl rfl rfl kkX11_isCounty rfl rfl (by decide) (by decide) ⟨Nat.le_refl _, Nat.le_refl _⟩ (Nat.le_of_ble_eq_true rfl) (o_isCounty γ y) (fun v1 S1 I1 J1 hp => ?_)
  obtain ⟨rfl, rfl, rfl, rfl⟩ := hp
  show Rj _ _ _ _ _ _ (4, [some (.ref 0), some (.int y), some (.int w)], [.int (bi (ctyB y))], (SS false c), I, J, 0, 0)
  refine r_ifc okX11_asks rfl (fun (h4 : (bi (ctyB y)) = (0 : Int32)) => ?_) (fun (h4 : ¬ (bi (ctyB y)) = (0 : Int32)) => ?_)
  · have h4s := bi_0.mp h4
    refine r_run okX11_asks 1 (cs := []) (σ' := (19, [some (.ref 0), some (.int y), some (.int w)], [.int (-2)], (SS false c), I, J, 0, 0)) rfl trivial ?_
    refine r_iret okX11_asks rfl rfl rfl (Nat.le_refl _) (Nat.le_refl _) ?_
    exact ⟨by unfold asV; rw [h4s]; rfl, rfl, kI_r, kJ_r, h.1.2.1⟩
  · have h4s := bi_n0.mp h4
    refine r_run okX11_asks 3 (cs := []) (σ' := (11, [some (.ref 0), some (.int y), some (.int w)], [.int 9, .int 0, .int w], (SS false c), I, J, 0, 0)) rfl trivial ?_
    refine r_callS okX11_asks okX11_within [.int w, .int 0, .int 9] [] rfl rfl rfl kkX11_within rfl rfl (by decide) (by decide) ⟨Nat.le_refl _, Nat.le_refl _⟩ (Nat.le_of_ble_eq_true rfl) (o_win γ w 0 9) (fun v1 S1 I1 J1 hp => ?_)
    obtain ⟨rfl, rfl, rfl, rfl⟩ := hp
    show Rj _ _ _ _ _ _ (14, [some (.ref 0), some (.int y), some (.int w)], [.int (bi (inB w 0 9))], (SS false c), I, J, 0, 0)
    refine r_ifc okX11_asks rfl (fun (h14 : ¬ (bi (inB w 0 9)) = (0 : Int32)) => ?_) (fun h140 => ?_)
    · have h14s := bi_n0.mp h14
      refine r_run okX11_asks 2 (cs := []) (σ' := (22, [some (.ref 0), some (.int y), some (.int w)], [.int y, .ref 0], (SS false c), I, J, 0, 0)) rfl trivial ?_
      refine r_callV okX11_asks okX11_fillAnswers [.int y] [] 0 rfl rfl rfl kkX11_fillAnswers rfl rfl (by decide) rfl rfl rfl (by decide) ⟨Nat.le_refl _, Nat.le_refl _⟩ (Nat.le_of_ble_eq_true rfl) (o_fillX γ (cty_lt h4s).1 h.1 (cty_lt h4s).2) (fun v1 S1 I1 J1 hp => ?_)
      obtain ⟨rfl, rfl, k1, k2, hF1, ha0⟩ := hp
      obtain ⟨Iz, eIz⟩ : ∃ z, z = I1 := ⟨_, rfl⟩
      subst eIz
      obtain ⟨Jz, eJz⟩ : ∃ z, z = J1 := ⟨_, rfl⟩
      subst eJz
      have hB1 := OBy_f k1 k2 hF1 h
      have ha : ∀ q, q < 9 → Iz 76 q = ansV I (mayB I (I 100 5)) y q := fun q hq => by rw [ha0 q hq, OBy_ans h0 h (cty_lt h4s).1 q hq, ← (cty_lt h4s).2]
      show Rj _ _ _ _ _ _ (25, [some (.ref 0), some (.int y), some (.int w)], [], (SS false c), Iz, Jz, 0, 0)
      refine r_run okX11_asks 2 (cs := []) (σ' := (28, [some (.ref 0), some (.int y), some (.int w)], [.int 9, .int w], (SS false c), Iz, Jz, 0, 0)) rfl trivial ?_
      refine r_icmp okX11_asks rfl (fun (h28 : ¬ w = (9 : Int32)) => ?_) (fun h280 => ?_)
      · refine r_run okX11_asks 4 (cs := [vp_in w 9]) (σ' := (51, [some (.ref 0), some (.int y), some (.int w)], [.int (Iz 76 w.toNatClampNeg)], (SS false c), Iz, Jz, 0, 0)) rfl ⟨(by obtain ⟨q, h1, h2, h3⟩ := asV_q (I := I) (F := mayB I (I 100 5)) (ls := ls) h4s h14s h28; rw [h2]; exact vin h1 (by decide)), trivial⟩ ?_
        refine r_iret okX11_asks rfl rfl rfl (Nat.le_refl _) (Nat.le_refl _) ?_
        obtain ⟨q, h1, h2, h3⟩ := asV_q (I := I) (F := mayB I (I 100 5)) (ls := ls) h4s h14s h28
        refine ⟨?_, rfl, kI_m (by decide) k1, k2, hB1.1.2.1⟩
        rw [h3, ← ha q h1, h2, nI_clamp (by omega)]
      · have h28 : w = (9 : Int32) := Classical.not_not.mp h280
        refine r_run okX11_asks 4 (cs := []) (σ' := (39, [some (.ref 0), some (.int y), some (.int w)], [.ref 76, .ref 79], (SS false c), Iz, Jz, 0, 0)) rfl trivial ?_
        refine r_callV okX11_asks okX6_firstTrue [.ref 76] [] 79 rfl rfl rfl kkX6_firstTrue rfl rfl (by decide) rfl rfl rfl (by decide) ⟨Nat.le_refl _, Nat.le_refl _⟩ (Nat.le_of_ble_eq_true rfl) (o_firstTrue79 γ (OBy_rul (by decide) h0 hB1) ha) (fun v1 S1 I1 J1 hp => ?_)
        obtain ⟨rfl, rfl, ⟨g1, rfl⟩, rfl⟩ := hp
        show Rj _ _ _ _ _ _ (42, [some (.ref 0), some (.int y), some (.int w)], [.int (bsI (lnN (ansV I (mayB I (I 100 5)) y) ls 0))], (SS false c), (sQ 86 Iz g1), Jz, 0, 0)
        refine r_run okX11_asks 1 (cs := []) (σ' := (51, [some (.ref 0), some (.int y), some (.int w)], [.int (bsI (lnN (ansV I (mayB I (I 100 5)) y) ls 0))], (SS false c), (sQ 86 Iz g1), Jz, 0, 0)) rfl trivial ?_
        refine r_iret okX11_asks rfl rfl rfl (Nat.le_refl _) (Nat.le_refl _) ?_
        exact ⟨by rw [asV_9 h4s h14s h28], rfl, kI_t (kI_m (by decide) k1) (kI_m (by decide) sQ_k), k2, OHea_k (sQ_ne (by decide)) (fun a q1 q2 => sQ_ne (by omega)) (by rw [sQ_ne (by decide)]) (by rw [sQ_ne (by decide)]) (by rw [sQ_ne (by decide)]) rfl rfl hB1.1.2.1⟩
    · have h14 : (bi (inB w 0 9)) = (0 : Int32) := Classical.not_not.mp h140
      have h14s := bi_0.mp h14
      refine r_run okX11_asks 1 (cs := []) (σ' := (19, [some (.ref 0), some (.int y), some (.int w)], [.int (-2)], (SS false c), I, J, 0, 0)) rfl trivial ?_
      refine r_iret okX11_asks rfl rfl rfl (Nat.le_refl _) (Nat.le_refl _) ?_
      exact ⟨by unfold asV; rw [h4s, h14s]; rfl, rfl, kI_r, kJ_r, h.1.2.1⟩
theorem lp_ob79 (γ : GE) {c : Bool} {I0 : AI} {J0 : AJ} {t : Nat} {ls : List Ln} {F : Nat → Nat → Bool} (h0 : OB0 I0 J0 79 ls F) (fin : AI) : ∀ (j k : Nat) (I M : AI) (J : AJ), k + j = 8 → OBy I0 J0 I M J t → ctF F ls M j k = fin → Rj γ mX11_obeyRules 6 0 0 (fun rt S' I' J' => none = rt ∧ (SS false c) = S' ∧ OBy I0 J0 I' fin J' t) (13, [some (.ref 0), some (.int (nI k)), none, none], [], (SS false c), I, J, 0, 0) := by
  intro j
  induction j with
  | zero =>
    intro k I M J hj h hf
    refine r_run okX11_obeyRules 2 (cs := []) (σ' := (16, [some (.ref 0), some (.int (nI k)), none, none], [.int 8, .int (nI k)], (SS false c), I, J, 0, 0)) rfl trivial ?_
    refine r_icmp okX11_obeyRules rfl (fun (h16 : (8 : Int32) ≤ (nI k)) => ?_) (fun (h16 : ¬ (8 : Int32) ≤ (nI k)) => ?_)
    · refine r_vret okX11_obeyRules rfl rfl (Nat.le_refl _) (Nat.le_refl _) ?_
      exact ⟨rfl, rfl, by rw [← hf]; exact h⟩
    · exact absurd (nI_le (a := 8) (by omega) (by omega)) h16
  | succ j ih =>
    intro k I M J hj h hf
    have hk8 : k < 8 := by omega
    refine r_run okX11_obeyRules 2 (cs := []) (σ' := (16, [some (.ref 0), some (.int (nI k)), none, none], [.int 8, .int (nI k)], (SS false c), I, J, 0, 0)) rfl trivial ?_
    refine r_icmp okX11_obeyRules rfl (fun (h16 : (8 : Int32) ≤ (nI k)) => ?_) (fun (h16 : ¬ (8 : Int32) ≤ (nI k)) => ?_)
    · exact absurd h16 (nI_ge (b := 8) (by omega) (by decide))
    · refine r_run okX11_obeyRules 2 (cs := []) (σ' := (21, [some (.ref 0), some (.int (nI k)), none, none], [.int (nI k), .ref 0], (SS false c), I, J, 0, 0)) rfl trivial ?_
      refine r_callV okX11_obeyRules okX11_fillAnswers [.int (nI k)] [] 0 rfl rfl rfl kkX11_fillAnswers rfl rfl (by decide) rfl rfl rfl (by decide) ⟨Nat.le_refl _, Nat.le_refl _⟩ (Nat.le_of_ble_eq_true rfl) (o_fill γ hk8 h.1) (fun v1 S1 I1 J1 hp => ?_)
      obtain ⟨rfl, rfl, k1, k2, hF1, ha0⟩ := hp
      obtain ⟨Iz, eIz⟩ : ∃ z, z = I1 := ⟨_, rfl⟩
      subst eIz
      obtain ⟨Jz, eJz⟩ : ∃ z, z = J1 := ⟨_, rfl⟩
      subst eJz
      have hB1 := OBy_f k1 k2 hF1 h
      have ha : ∀ q, q < 9 → Iz 76 q = (ansV M F (nI k)) q := fun q hq => by rw [ha0 q hq, OBy_ans h0 h hk8 q hq]
      show Rj _ _ _ _ _ _ (24, [some (.ref 0), some (.int (nI k)), none, none], [], (SS false c), Iz, Jz, 0, 0)
      cases hl : lnN (ansV M F (nI k)) ls 0 with
      | none =>
        refine r_run okX11_obeyRules 4 (cs := []) (σ' := (32, [some (.ref 0), some (.int (nI k)), none, none], [.ref 76, .ref 79], (SS false c), Iz, Jz, 0, 0)) rfl trivial ?_
        refine r_callV okX11_obeyRules okX6_firstTrue [.ref 76] [] 79 rfl rfl rfl kkX6_firstTrue rfl rfl (by decide) rfl rfl rfl (by decide) ⟨Nat.le_refl _, Nat.le_refl _⟩ (Nat.le_of_ble_eq_true rfl) (o_firstTrue79 γ (h := (ansV M F (nI k))) (OBy_rul (by decide) h0 hB1) ha) (fun v1 S1 I1 J1 hp => ?_)
        obtain ⟨rfl, rfl, ⟨g1, rfl⟩, rfl⟩ := hp
        have hB2 := OBy_s (g := g1) (a0 := 86) (by decide) hB1
        rw [hl]
        show Rj _ _ _ _ _ _ (35, [some (.ref 0), some (.int (nI k)), none, none], [.int (-1)], (SS false c), (sQ 86 Iz g1), Jz, 0, 0)
        refine r_run okX11_obeyRules 4 (cs := []) (σ' := (41, [some (.ref 0), some (.int (nI k)), some (.int (-1)), none], [.int (-1), .ref 79], (SS false c), (sQ 86 Iz g1), Jz, 0, 0)) rfl trivial ?_
        refine r_callV okX11_obeyRules okX6_deed [.int (-1)] [] 79 rfl rfl rfl kkX6_deed rfl rfl (by decide) rfl rfl rfl (by decide) ⟨Nat.le_refl _, Nat.le_refl _⟩ (Nat.le_of_ble_eq_true rfl) (o_deedN79 γ (OBy_rul (by decide) h0 hB2)) (fun v1 S1 I1 J1 hp => ?_)
        obtain ⟨rfl, rfl, rfl, rfl⟩ := hp
        show Rj _ _ _ _ _ _ (44, [some (.ref 0), some (.int (nI k)), some (.int (-1)), none], [.int 2], (SS false c), (sQ 86 Iz g1), Jz, 0, 0)
        refine r_run okX11_obeyRules 2 (cs := []) (σ' := (46, [some (.ref 0), some (.int (nI k)), some (.int (-1)), some (.int 2)], [.int 2], (SS false c), (sQ 86 Iz g1), Jz, 0, 0)) rfl trivial ?_
        refine r_ifc okX11_obeyRules rfl (fun (h46 : ¬ (2 : Int32) = (0 : Int32)) => ?_) (fun h460 => ?_)
        · refine r_run okX11_obeyRules 2 (cs := []) (σ' := (79, [some (.ref 0), some (.int (nI k)), some (.int (-1)), some (.int 2)], [.int 1, .int 2], (SS false c), (sQ 86 Iz g1), Jz, 0, 0)) rfl trivial ?_
          refine r_icmp okX11_obeyRules rfl (fun (h79 : ¬ (2 : Int32) = (1 : Int32)) => ?_) (fun h790 => ?_)
          · refine r_run okX11_obeyRules 2 (cs := []) (σ' := (13, [some (.ref 0), some (.int ((nI k) + 1)), some (.int (-1)), some (.int 2)], [], (SS false c), (sQ 86 Iz g1), Jz, 0, 0)) rfl trivial ?_
            have ecy : ctyN M F ls (nI k) = M := by unfold ctyN; rw [hl]
            rw [← nI_succ]
            refine r_weak (L' := [some (.ref 0), some (.int (nI (k + 1))), none, none]) ⟨rfl, rfl, trivial⟩ ?_
            exact ih (k + 1) _ _ _ (by omega) hB2 (by rw [← hf, ctF, ecy])
          · have h79 : (2 : Int32) = (1 : Int32) := Classical.not_not.mp h790
            exact absurd h79 (by decide)
        · have h46 : (2 : Int32) = (0 : Int32) := Classical.not_not.mp h460
          exact absurd h46 (by decide)
      | some k1 =>
        have hk1 := lnN_lt hl
        have hkl : k1 < ls.length := by omega
        obtain ⟨q, hq⟩ : ∃ q, ls[k1]? = some q := ⟨_, List.getElem?_eq_getElem hkl⟩
        have hok := (h0.2.2.2.2.1.2.2 k1 q hq).2
        refine r_run okX11_obeyRules 4 (cs := []) (σ' := (32, [some (.ref 0), some (.int (nI k)), none, none], [.ref 76, .ref 79], (SS false c), Iz, Jz, 0, 0)) rfl trivial ?_
        refine r_callV okX11_obeyRules okX6_firstTrue [.ref 76] [] 79 rfl rfl rfl kkX6_firstTrue rfl rfl (by decide) rfl rfl rfl (by decide) ⟨Nat.le_refl _, Nat.le_refl _⟩ (Nat.le_of_ble_eq_true rfl) (o_firstTrue79 γ (OBy_rul (by decide) h0 hB1) ha) (fun v1 S1 I1 J1 hp => ?_)
        obtain ⟨rfl, rfl, ⟨g1, rfl⟩, rfl⟩ := hp
        have hB2 := OBy_s (g := g1) (a0 := 86) (by decide) hB1
        rw [hl]
        show Rj _ _ _ _ _ _ (35, [some (.ref 0), some (.int (nI k)), none, none], [.int (nI k1)], (SS false c), (sQ 86 Iz g1), Jz, 0, 0)
        refine r_run okX11_obeyRules 4 (cs := []) (σ' := (41, [some (.ref 0), some (.int (nI k)), some (.int (nI k1)), none], [.int (nI k1), .ref 79], (SS false c), (sQ 86 Iz g1), Jz, 0, 0)) rfl trivial ?_
        refine r_callV okX11_obeyRules okX6_deed [.int (nI k1)] [] 79 rfl rfl rfl kkX6_deed rfl rfl (by decide) rfl rfl rfl (by decide) ⟨Nat.le_refl _, Nat.le_refl _⟩ (Nat.le_of_ble_eq_true rfl) (o_deed79 γ (OBy_rul (by decide) h0 hB2) hq) (fun v1 S1 I1 J1 hp => ?_)
        obtain ⟨rfl, rfl, rfl, rfl⟩ := hp
        show Rj _ _ _ _ _ _ (44, [some (.ref 0), some (.int (nI k)), some (.int (nI k1)), none], [.int q.1], (SS false c), (sQ 86 Iz g1), Jz, 0, 0)
        refine r_run okX11_obeyRules 2 (cs := []) (σ' := (46, [some (.ref 0), some (.int (nI k)), some (.int (nI k1)), some (.int q.1)], [.int q.1], (SS false c), (sQ 86 Iz g1), Jz, 0, 0)) rfl trivial ?_
        refine r_ifc okX11_obeyRules rfl (fun (h46 : ¬ q.1 = (0 : Int32)) => ?_) (fun h460 => ?_)
        · have q0 : ¬ q.1 = 0 := h46
          refine r_run okX11_obeyRules 2 (cs := []) (σ' := (79, [some (.ref 0), some (.int (nI k)), some (.int (nI k1)), some (.int q.1)], [.int 1, .int q.1], (SS false c), (sQ 86 Iz g1), Jz, 0, 0)) rfl trivial ?_
          refine r_icmp okX11_obeyRules rfl (fun (h79 : ¬ q.1 = (1 : Int32)) => ?_) (fun h790 => ?_)
          · have q1 : ¬ q.1 = 1 := h79
            have q2 : q.1 = 2 := by obtain ⟨z, hz, ez⟩ := hok.1; rw [ez] at q0 q1 ⊢; rcases (show z = 0 ∨ z = 1 ∨ z = 2 by omega) with rfl | rfl | rfl; (· exact absurd rfl q0); (· exact absurd rfl q1); rfl
            refine r_run okX11_obeyRules 2 (cs := []) (σ' := (13, [some (.ref 0), some (.int ((nI k) + 1)), some (.int (nI k1)), some (.int q.1)], [], (SS false c), (sQ 86 Iz g1), Jz, 0, 0)) rfl trivial ?_
            have ecy : ctyN M F ls (nI k) = M := by unfold ctyN; rw [hl]; simp only [hq]; rw [if_pos q2]
            rw [← nI_succ]
            refine r_weak (L' := [some (.ref 0), some (.int (nI (k + 1))), none, none]) ⟨rfl, rfl, trivial⟩ ?_
            exact ih (k + 1) _ _ _ (by omega) hB2 (by rw [← hf, ctF, ecy])
          · have h79 : q.1 = (1 : Int32) := Classical.not_not.mp h790
            have q1 : q.1 = 1 := h79
            refine r_run okX11_obeyRules 5 (cs := []) (σ' := (91, [some (.ref 0), some (.int (nI k)), some (.int (nI k1)), some (.int q.1)], [.int ((sQ 86 Iz g1) 0 15), .int (nI k), .ref 52], (SS false c), (sQ 86 Iz g1), Jz, 0, 0)) rfl trivial ?_
            refine r_callV okX11_obeyRules okX10_stop [.int (nI k), .int ((sQ 86 Iz g1) 0 15)] [] 52 rfl rfl rfl kkX10_stop rfl rfl (by decide) rfl rfl rfl (by decide) ⟨Nat.le_refl _, Nat.le_refl _⟩ (Nat.le_of_ble_eq_true rfl) (g_stop γ hB2.1.2.2.1 hB2.1.2.2.2.1 hB2.1.2.2.2.2.1 hk8 (hB2.1.2.2.2.2.2.2.1.trans hB2.1.2.2.2.2.2.2.2.1.symm)) (fun v1 S1 I1 J1 hp => ?_)
            obtain ⟨rfl, rfl, rfl, rfl⟩ := hp
            show Rj _ _ _ _ _ _ (94, [some (.ref 0), some (.int (nI k)), some (.int (nI k1)), some (.int q.1)], [.int (bi (lifB M (nI k)))], (SS false c), (stoG (sQ 86 Iz g1) M (nI k)), Jz, 0, 0)
            refine r_run okX11_obeyRules 3 (cs := []) (σ' := (13, [some (.ref 0), some (.int ((nI k) + 1)), some (.int (nI k1)), some (.int q.1)], [], (SS false c), (stoG (sQ 86 Iz g1) M (nI k)), Jz, 0, 0)) rfl trivial ?_
            have ecy : ctyN M F ls (nI k) = lifN M (nI k) := by unfold ctyN; rw [hl]; simp only [hq]; rw [q1, if_neg (by decide), if_pos rfl]
            rw [← nI_succ]
            refine r_weak (L' := [some (.ref 0), some (.int (nI (k + 1))), none, none]) ⟨rfl, rfl, trivial⟩ ?_
            exact ih (k + 1) _ _ _ (by omega) (OBy_lif hB2 (nI k)) (by rw [← hf, ctF, ecy])
        · have h46 : q.1 = (0 : Int32) := Classical.not_not.mp h460
          have q0 : q.1 = 0 := h46
          refine r_run okX11_obeyRules 10 (cs := []) (σ' := (67, [some (.ref 0), some (.int (nI k)), some (.int (nI k1)), some (.int q.1)], [.ref 76, .int (nI k1), .ref 79, .int ((sQ 86 Iz g1) 0 15), .int (nI k), .ref 52], (SS false c), (sQ 86 Iz g1), Jz, 0, 0)) rfl trivial ?_
          refine r_callV okX11_obeyRules okX6_span [.int (nI k1), .ref 76] [.int ((sQ 86 Iz g1) 0 15), .int (nI k), .ref 52] 79 rfl rfl rfl kkX6_span rfl rfl (by decide) rfl rfl rfl (by decide) ⟨Nat.le_refl _, Nat.le_refl _⟩ (Nat.le_of_ble_eq_true rfl) (o_span79 γ (h := (ansV M F (nI k))) (OBy_rul (by decide) h0 hB2) (fun q hq => by rw [sQ_ne (by decide)]; exact ha q hq) hq q0) (fun v1 S1 I1 J1 hp => ?_)
          obtain ⟨rfl, rfl, ⟨g2, rfl⟩, rfl⟩ := hp
          have hB3 := OBy_s (g := g2) (a0 := 86) (by decide) hB2
          show Rj _ _ _ _ _ _ (70, [some (.ref 0), some (.int (nI k)), some (.int (nI k1)), some (.int q.1)], [.int (spnV (ansV M F (nI k)) q.2.1), .int ((sQ 86 Iz g1) 0 15), .int (nI k), .ref 52], (SS false c), (sQ 86 (sQ 86 Iz g1) g2), Jz, 0, 0)
          refine r_callV okX11_obeyRules okX10_issue [.int (nI k), .int ((sQ 86 Iz g1) 0 15), .int (spnV (ansV M F (nI k)) q.2.1)] [] 52 rfl rfl rfl kkX10_issue rfl rfl (by decide) rfl rfl rfl (by decide) ⟨Nat.le_refl _, Nat.le_refl _⟩ (Nat.le_of_ble_eq_true rfl) (g_issue γ hB3.1.2.2.1 hB3.1.2.2.2.1 hB3.1.2.2.2.2.1 hk8 (spnV (ansV M F (nI k)) q.2.1) (OBy_s7 h0 hB3) (hB2.1.2.2.2.2.2.2.1.trans hB2.1.2.2.2.2.2.2.2.1.symm)) (fun v1 S1 I1 J1 hp => ?_)
          obtain ⟨rfl, rfl, hz⟩ := hp
          obtain ⟨Iw, eIw⟩ : ∃ z, z = I1 := ⟨_, rfl⟩
          subst eIw
          obtain ⟨Jw, eJw⟩ : ∃ z, z = J1 := ⟨_, rfl⟩
          subst eJw
          have hB4 := OBy_iss hB3 hk8 (by rw [spn_clM]; exact clM_rg _) hz
          show Rj _ _ _ _ _ _ (73, [some (.ref 0), some (.int (nI k)), some (.int (nI k1)), some (.int q.1)], [.int (begV M (nI k))], (SS false c), Iw, Jw, 0, 0)
          refine r_run okX11_obeyRules 4 (cs := []) (σ' := (13, [some (.ref 0), some (.int ((nI k) + 1)), some (.int (nI k1)), some (.int q.1)], [], (SS false c), Iw, Jw, 0, 0)) rfl trivial ?_
          have ecy : ctyN M F ls (nI k) = begN M (nI k) (spnV (ansV M F (nI k)) q.2.1) := by unfold ctyN; rw [hl]; simp only [hq]; rw [q0, if_neg (by decide), if_neg (by decide), spn_clM]
          rw [← nI_succ]
          refine r_weak (L' := [some (.ref 0), some (.int (nI (k + 1))), none, none]) ⟨rfl, rfl, trivial⟩ ?_
          exact ih (k + 1) _ _ _ (by omega) hB4 (by rw [← hf, ctF, ecy])
theorem o_obey79 (γ : GE) {c : Bool} {I0 : AI} {J0 : AJ} {t : Nat} {ls : List Ln} {F : Nat → Nat → Bool} (h0 : OB0 I0 J0 79 ls F) {I M : AI} {J : AJ} (h : OBy I0 J0 I M J t) : Ct γ mX11_obeyRules 6 0 0 [.ref 0] (SS false c) I J (fun rt S' I' J' => none = rt ∧ (SS false c) = S' ∧ OBy I0 J0 I' (ctF F ls M 8 0) J' t) := by
  refine ct_of okX11_obeyRules (L := [some (.ref 0), none, none, none]) (Nat.le_of_ble_eq_true rfl) rfl ?_
  refine r_run okX11_obeyRules 2 (cs := []) (σ' := (4, [some (.ref 0), none, none, none], [.ref 79], (SS false c), I, J, 0, 0)) rfl trivial ?_
  refine r_callV okX11_obeyRules okX6_size [] [] 79 rfl rfl rfl kkX6_size rfl rfl (by decide) rfl rfl rfl (by decide) ⟨Nat.le_refl _, Nat.le_refl _⟩ (Nat.le_of_ble_eq_true rfl) (o_rsize79 γ) (fun v1 S1 I1 J1 hp => ?_)
  obtain ⟨rfl, rfl, rfl, rfl⟩ := hp
  show Rj _ _ _ _ _ _ (7, [some (.ref 0), none, none, none], [.int (I 79 8)], (SS false c), I, J, 0, 0)
  refine r_ifc okX11_obeyRules rfl (fun (h7 : ¬ (I 79 8) = (0 : Int32)) => ?_) (fun h70 => ?_)
  · refine r_run okX11_obeyRules 2 (cs := []) (σ' := (13, [some (.ref 0), some (.int 0), none, none], [], (SS false c), I, J, 0, 0)) rfl trivial ?_
    have z := lp_ob79 γ (c := c) h0 (ctF F ls M 8 0) 8 0 I M J (by omega) h rfl
    rw [nI_0] at z
    exact r_weak (L' := [some (.ref 0), some (.int 0), none, none]) ⟨rfl, rfl, trivial⟩ z
  · have h7 : (I 79 8) = (0 : Int32) := Classical.not_not.mp h70
    refine r_vret okX11_obeyRules rfl rfl (Nat.le_refl _) (Nat.le_refl _) ?_
    refine ⟨rfl, rfl, ?_⟩
    have hR := OBy_rul (by decide) h0 h
    have z : ls = [] := by
      have e := hR.2.1.symm.trans h7
      exact List.length_eq_zero_iff.mp (nI_inj (by have := hR.1; omega) (by decide) e)
    subst z; rw [ctF_nil]; exact h
theorem lp_mi79 (γ : GE) {c : Bool} {I0 : AI} {J0 : AJ} {ls : List Ln} {F : Nat → Nat → Bool} (h0 : OB0 I0 J0 79 ls F) (fin : AI) (n t0 : Nat) (hn : n ≤ 60) (htn : t0 + n < 720) : ∀ (j k : Nat) (I M : AI) (J : AJ), k + j = n → OBy I0 J0 I M J (t0 + k) → mnN F ls M j = fin → Rj γ mX11_minutes 7 0 0 (fun rt S' I' J' => some (.int (nI (t0 + n))) = rt ∧ (SS false c) = S' ∧ OBy I0 J0 I' fin J' (t0 + n)) (26, [some (.ref 0), some (.int (nI n)), some (.int (nI k))], [], (SS false c), I, J, 0, 0) := by
  intro j
  induction j with
  | zero =>
    intro k I M J hj h hf
    refine r_run okX11_minutes 2 (cs := []) (σ' := (28, [some (.ref 0), some (.int (nI n)), some (.int (nI k))], [.int (nI n), .int (nI k)], (SS false c), I, J, 0, 0)) rfl trivial ?_
    refine r_icmp okX11_minutes rfl (fun (h28 : (nI n) ≤ (nI k)) => ?_) (fun (h28 : ¬ (nI n) ≤ (nI k)) => ?_)
    · refine r_run okX11_minutes 2 (cs := []) (σ' := (62, [some (.ref 0), some (.int (nI n)), some (.int (nI k))], [.int (I 0 15)], (SS false c), I, J, 0, 0)) rfl trivial ?_
      refine r_iret okX11_minutes rfl rfl rfl (Nat.le_refl _) (Nat.le_refl _) ?_
      have e : k = n := by omega
      subst e
      exact ⟨by rw [h.1.2.2.2.2.2.2.1], rfl, by rw [← hf]; exact h⟩
    · exact absurd (nI_le (a := n) (by omega) (by omega)) h28
  | succ j ih =>
    intro k I M J hj h hf
    refine r_run okX11_minutes 2 (cs := []) (σ' := (28, [some (.ref 0), some (.int (nI n)), some (.int (nI k))], [.int (nI n), .int (nI k)], (SS false c), I, J, 0, 0)) rfl trivial ?_
    refine r_icmp okX11_minutes rfl (fun (h28 : (nI n) ≤ (nI k)) => ?_) (fun (h28 : ¬ (nI n) ≤ (nI k)) => ?_)
    · exact absurd h28 (nI_ge (b := n) (by omega) (by omega))
    · refine r_run okX11_minutes 2 (cs := []) (σ' := (35, [some (.ref 0), some (.int (nI n)), some (.int (nI k))], [.int (I 0 14)], (SS false c), I, J, 0, 0)) rfl trivial ?_
      refine r_ifc okX11_minutes rfl (fun (h35 : (I 0 14) = (0 : Int32)) => ?_) (fun (h35 : ¬ (I 0 14) = (0 : Int32)) => ?_)
      · refine r_run okX11_minutes 8 (cs := []) (σ' := (26, [some (.ref 0), some (.int (nI n)), some (.int ((nI k) + 1))], [], (SS false c), (upI I 0 15 ((I 0 15) + 1)), J, 0, 0)) rfl trivial ?_
        have e44 : M 100 44 = 0 := by rw [h.2.2.2.2.2.2.2, ← h0.2.2.2.2.2.2, ← h.2.2.2.2.2.2.1]; exact h35
        rw [← nI_succ]
        refine ih (k + 1) _ _ _ (by omega) (OBy_n (t := t0 + k) h (by omega)) ?_
        rw [← hf, mnN, mgN, if_pos e44]
      · refine r_run okX11_minutes 1 (cs := []) (σ' := (39, [some (.ref 0), some (.int (nI n)), some (.int (nI k))], [.ref 0], (SS false c), I, J, 0, 0)) rfl trivial ?_
        refine r_callV okX11_minutes okX11_obeyRules [] [] 0 rfl rfl rfl kkX11_obeyRules rfl rfl (by decide) rfl rfl rfl (by decide) ⟨Nat.le_refl _, Nat.le_refl _⟩ (Nat.le_of_ble_eq_true rfl) (o_obey79 γ h0 h) (fun v1 S1 I1 J1 hp => ?_)
        obtain ⟨rfl, rfl, hB1⟩ := hp
        obtain ⟨Iz, eIz⟩ : ∃ z, z = I1 := ⟨_, rfl⟩
        subst eIz
        obtain ⟨Jz, eJz⟩ : ∃ z, z = J1 := ⟨_, rfl⟩
        subst eJz
        show Rj _ _ _ _ _ _ (42, [some (.ref 0), some (.int (nI n)), some (.int (nI k))], [], (SS false c), Iz, Jz, 0, 0)
        refine r_run okX11_minutes 8 (cs := []) (σ' := (26, [some (.ref 0), some (.int (nI n)), some (.int ((nI k) + 1))], [], (SS false c), (upI Iz 0 15 ((Iz 0 15) + 1)), Jz, 0, 0)) rfl trivial ?_
        have e44 : ¬ M 100 44 = 0 := by rw [h.2.2.2.2.2.2.2, ← h0.2.2.2.2.2.2, ← h.2.2.2.2.2.2.1]; exact h35
        rw [← nI_succ]
        refine ih (k + 1) _ _ _ (by omega) (OBy_n (t := t0 + k) hB1 (by omega)) ?_
        rw [← hf, mnN, mgN, if_neg e44]
        rw [show ctF F ls M 8 0 100 5 = M 100 5 from ctF_fr rfl (fun _ => by decide) 8 0 M]
theorem mn_in {t n : Nat} (ht : t < 720) (hn : n ≤ 60) (h : nI t + nI n < 720) : t + n < 720 := by
  rw [nI_ad] at h
  exact Nat.lt_of_not_le fun q => absurd h (Int32.not_lt.mpr (nI_le (a := 720) q (by omega)))
theorem o_minutes179 (γ : GE) {c : Bool} {I : AI} {J : AJ} {t : Nat} {ls : List Ln} {F : Nat → Nat → Bool} (h0 : OB0 I J 79 ls F) (h : OBy I J I I J t) {n : Nat} (hn60 : n ≤ 60) : Ct γ mX11_minutes 7 0 0 [.ref 0, .int (nI n)] (SS false c) I J (fun rt S' I' J' => some (.int (mnV I (nI n))) = rt ∧ (SS false c) = S' ∧ (mnB I (nI n) = true → OBy I J I' (mnN F ls I n) J' (t + n)) ∧ (mnB I (nI n) = false → I = I' ∧ J = J')) := by
  refine ct_of okX11_minutes (L := [some (.ref 0), some (.int (nI n)), none]) (Nat.le_of_ble_eq_true rfl) rfl ?_
  refine r_run okX11_minutes 3 (cs := []) (σ' := (4, [some (.ref 0), some (.int (nI n)), none], [.int 60, .int 1, .int (nI n)], (SS false c), I, J, 0, 0)) rfl trivial ?_
  refine r_callS okX11_minutes okX11_within [.int (nI n), .int 1, .int 60] [] rfl rfl rfl kkX11_within rfl rfl (by decide) (by decide) ⟨Nat.le_refl _, Nat.le_refl _⟩ (Nat.le_of_ble_eq_true rfl) (o_win γ (nI n) 1 60) (fun v1 S1 I1 J1 hp => ?_)
  obtain ⟨rfl, rfl, rfl, rfl⟩ := hp
  show Rj _ _ _ _ _ _ (7, [some (.ref 0), some (.int (nI n)), none], [.int (bi (inB (nI n) 1 60))], (SS false c), I, J, 0, 0)
  refine r_ifc okX11_minutes rfl (fun (h7 : (bi (inB (nI n) 1 60)) = (0 : Int32)) => ?_) (fun (h7 : ¬ (bi (inB (nI n) 1 60)) = (0 : Int32)) => ?_)
  · have h7s := bi_0.mp h7
    refine r_run okX11_minutes 1 (cs := []) (σ' := (23, [some (.ref 0), some (.int (nI n)), none], [.int (-1)], (SS false c), I, J, 0, 0)) rfl trivial ?_
    refine r_iret okX11_minutes rfl rfl rfl (Nat.le_refl _) (Nat.le_refl _) ?_
    have hb : mnB I (nI n) = false := by unfold mnB; rw [h7s]; rfl
    exact ⟨by rw [mnV, hb]; rfl, rfl, (fun z => absurd (hb.symm.trans z) (by decide)), fun _ => ⟨rfl, rfl⟩⟩
  · have h7s := bi_n0.mp h7
    refine r_run okX11_minutes 5 (cs := []) (σ' := (19, [some (.ref 0), some (.int (nI n)), none], [.int 720, .int ((I 0 15) + (nI n))], (SS false c), I, J, 0, 0)) rfl trivial ?_
    refine r_icmp okX11_minutes rfl (fun (h19 : ((I 0 15) + (nI n)) < (720 : Int32)) => ?_) (fun (h19 : ¬ ((I 0 15) + (nI n)) < (720 : Int32)) => ?_)
    · refine r_run okX11_minutes 2 (cs := []) (σ' := (26, [some (.ref 0), some (.int (nI n)), some (.int 0)], [], (SS false c), I, J, 0, 0)) rfl trivial ?_
      have z := lp_mi79 γ (c := c) h0 (mnN F ls I n) n t (by omega) (by have := mn_in h.1.2.2.2.2.2.1 (show n ≤ 60 by omega) (h.1.2.2.2.2.2.2.1 ▸ h19); omega) n 0 I I J (by omega) h rfl
      rw [nI_0] at z
      refine r_post (fun v S1 I1 J1 q => ?_) z
      have hb : mnB I (nI n) = true := by
        unfold mnB; rw [h7s, h.1.2.2.2.2.2.2.2.1.trans h.1.2.2.2.2.2.2.1.symm]
        exact (Bool.and_eq_true_iff.mpr ⟨rfl, decide_eq_true h19⟩)
      refine ⟨?_, q.2.1, fun _ => q.2.2, fun z => absurd (hb.symm.trans z) (by decide)⟩
      rw [← q.1, mnV, if_pos hb, h.1.2.2.2.2.2.2.2.1, nI_ad]
    · refine r_run okX11_minutes 1 (cs := []) (σ' := (23, [some (.ref 0), some (.int (nI n)), none], [.int (-1)], (SS false c), I, J, 0, 0)) rfl trivial ?_
      refine r_iret okX11_minutes rfl rfl rfl (Nat.le_refl _) (Nat.le_refl _) ?_
      have hb : mnB I (nI n) = false := by unfold mnB; rw [h.1.2.2.2.2.2.2.2.1.trans h.1.2.2.2.2.2.2.1.symm]; exact Bool.and_eq_false_iff.mpr (Or.inr (decide_eq_false h19))
      exact ⟨by rw [mnV, hb]; rfl, rfl, (fun z => absurd (hb.symm.trans z) (by decide)), fun _ => ⟨rfl, rfl⟩⟩
theorem o_minutes079 (γ : GE) {c : Bool} {I : AI} {J : AJ} {t : Nat} {ls : List Ln} {F : Nat → Nat → Bool} (h0 : OB0 I J 79 ls F) (h : OBy I J I I J t) {n : Int32} (hb : inB n 1 60 = false) : Ct γ mX11_minutes 7 0 0 [.ref 0, .int n] (SS false c) I J (fun rt S' I' J' => some (.int (mnV I n)) = rt ∧ (SS false c) = S' ∧ (mnB I n = true → OBy I J I' (mnN F ls I (nv n)) J' (t + nv n)) ∧ (mnB I n = false → I = I' ∧ J = J')) := by
  refine ct_of okX11_minutes (L := [some (.ref 0), some (.int n), none]) (Nat.le_of_ble_eq_true rfl) rfl ?_
  refine r_run okX11_minutes 3 (cs := []) (σ' := (4, [some (.ref 0), some (.int n), none], [.int 60, .int 1, .int n], (SS false c), I, J, 0, 0)) rfl trivial ?_
  refine r_callS okX11_minutes okX11_within [.int n, .int 1, .int 60] [] rfl rfl rfl kkX11_within rfl rfl (by decide) (by decide) ⟨Nat.le_refl _, Nat.le_refl _⟩ (Nat.le_of_ble_eq_true rfl) (o_win γ n 1 60) (fun v1 S1 I1 J1 hp => ?_)
  obtain ⟨rfl, rfl, rfl, rfl⟩ := hp
  show Rj _ _ _ _ _ _ (7, [some (.ref 0), some (.int n), none], [.int (bi (inB n 1 60))], (SS false c), I, J, 0, 0)
  refine r_ifc okX11_minutes rfl (fun (h7 : (bi (inB n 1 60)) = (0 : Int32)) => ?_) (fun (h7 : ¬ (bi (inB n 1 60)) = (0 : Int32)) => ?_)
  · have h7s := bi_0.mp h7
    refine r_run okX11_minutes 1 (cs := []) (σ' := (23, [some (.ref 0), some (.int n), none], [.int (-1)], (SS false c), I, J, 0, 0)) rfl trivial ?_
    refine r_iret okX11_minutes rfl rfl rfl (Nat.le_refl _) (Nat.le_refl _) ?_
    have hc : mnB I n = false := by unfold mnB; rw [hb]; rfl
    exact ⟨by rw [mnV, hc]; rfl, rfl, (fun z => absurd (hc.symm.trans z) (by decide)), fun _ => ⟨rfl, rfl⟩⟩
  · have h7s := bi_n0.mp h7
    exact absurd (hb.symm.trans h7s) (by decide)
theorem o_minutes79 (γ : GE) {c : Bool} {I : AI} {J : AJ} {t : Nat} {ls : List Ln} {F : Nat → Nat → Bool} (h0 : OB0 I J 79 ls F) (h : OBy I J I I J t) (n : Int32) : Ct γ mX11_minutes 7 0 0 [.ref 0, .int n] (SS false c) I J (fun rt S' I' J' => some (.int (mnV I n)) = rt ∧ (SS false c) = S' ∧ (mnB I n = true → OBy I J I' (mnN F ls I (nv n)) J' (t + nv n)) ∧ (mnB I n = false → I = I' ∧ J = J')) := by
  cases hb : inB n 1 60 with
  | false => exact o_minutes079 γ h0 h hb
  | true =>
    obtain ⟨k, hk, rfl⟩ : rg 61 n := inB_rg (n := 60) (by decide) (inB_t.mpr ⟨Int32.le_trans (by decide) (inB_t.mp hb).1, (inB_t.mp hb).2⟩)
    rw [nv_nI (by omega)]
    exact o_minutes179 γ h0 h (by omega)
theorem o_asks87 (γ : GE) {c : Bool} {I : AI} {J : AJ} {t : Nat} {ls : List Ln} (h0 : OB0 I J 87 ls (mayB I (I 100 5))) (h : OBy I J I I J t) (y w : Int32) : Ct γ mX11_asks 6 0 0 [.ref 0, .int y, .int w] (SS true c) I J (fun rt S' I' J' => some (.int (asV I (mayB I (I 100 5)) ls y w)) = rt ∧ (SS true c) = S' ∧ kI [37, 76, 86, 94] I I' ∧ kJ [38, 39, 40, 41, 77] J J' ∧ OHea I' J') := by
  refine ct_of okX11_asks (L := [some (.ref 0), some (.int y), some (.int w)]) (Nat.le_of_ble_eq_true rfl) rfl ?_
  refine r_run okX11_asks 1 (cs := []) (σ' := (1, [some (.ref 0), some (.int y), some (.int w)], [.int y], (SS true c), I, J, 0, 0)) rfl trivial ?_
  refine r_callS okX11_asks okX11_isCounty [.int y] [] rfl rfl rfl kkX11_isCounty rfl rfl (by decide) (by decide) ⟨Nat.le_refl _, Nat.le_refl _⟩ (Nat.le_of_ble_eq_true rfl) (o_isCounty γ y) (fun v1 S1 I1 J1 hp => ?_)
  obtain ⟨rfl, rfl, rfl, rfl⟩ := hp
  show Rj _ _ _ _ _ _ (4, [some (.ref 0), some (.int y), some (.int w)], [.int (bi (ctyB y))], (SS true c), I, J, 0, 0)
  refine r_ifc okX11_asks rfl (fun (h4 : (bi (ctyB y)) = (0 : Int32)) => ?_) (fun (h4 : ¬ (bi (ctyB y)) = (0 : Int32)) => ?_)
  · have h4s := bi_0.mp h4
    refine r_run okX11_asks 1 (cs := []) (σ' := (19, [some (.ref 0), some (.int y), some (.int w)], [.int (-2)], (SS true c), I, J, 0, 0)) rfl trivial ?_
    refine r_iret okX11_asks rfl rfl rfl (Nat.le_refl _) (Nat.le_refl _) ?_
    exact ⟨by unfold asV; rw [h4s]; rfl, rfl, kI_r, kJ_r, h.1.2.1⟩
  · have h4s := bi_n0.mp h4
    refine r_run okX11_asks 3 (cs := []) (σ' := (11, [some (.ref 0), some (.int y), some (.int w)], [.int 9, .int 0, .int w], (SS true c), I, J, 0, 0)) rfl trivial ?_
    refine r_callS okX11_asks okX11_within [.int w, .int 0, .int 9] [] rfl rfl rfl kkX11_within rfl rfl (by decide) (by decide) ⟨Nat.le_refl _, Nat.le_refl _⟩ (Nat.le_of_ble_eq_true rfl) (o_win γ w 0 9) (fun v1 S1 I1 J1 hp => ?_)
    obtain ⟨rfl, rfl, rfl, rfl⟩ := hp
    show Rj _ _ _ _ _ _ (14, [some (.ref 0), some (.int y), some (.int w)], [.int (bi (inB w 0 9))], (SS true c), I, J, 0, 0)
    refine r_ifc okX11_asks rfl (fun (h14 : ¬ (bi (inB w 0 9)) = (0 : Int32)) => ?_) (fun h140 => ?_)
    · have h14s := bi_n0.mp h14
      refine r_run okX11_asks 2 (cs := []) (σ' := (22, [some (.ref 0), some (.int y), some (.int w)], [.int y, .ref 0], (SS true c), I, J, 0, 0)) rfl trivial ?_
      refine r_callV okX11_asks okX11_fillAnswers [.int y] [] 0 rfl rfl rfl kkX11_fillAnswers rfl rfl (by decide) rfl rfl rfl (by decide) ⟨Nat.le_refl _, Nat.le_refl _⟩ (Nat.le_of_ble_eq_true rfl) (o_fillX γ (cty_lt h4s).1 h.1 (cty_lt h4s).2) (fun v1 S1 I1 J1 hp => ?_)
      obtain ⟨rfl, rfl, k1, k2, hF1, ha0⟩ := hp
      obtain ⟨Iz, eIz⟩ : ∃ z, z = I1 := ⟨_, rfl⟩
      subst eIz
      obtain ⟨Jz, eJz⟩ : ∃ z, z = J1 := ⟨_, rfl⟩
      subst eJz
      have hB1 := OBy_f k1 k2 hF1 h
      have ha : ∀ q, q < 9 → Iz 76 q = ansV I (mayB I (I 100 5)) y q := fun q hq => by rw [ha0 q hq, OBy_ans h0 h (cty_lt h4s).1 q hq, ← (cty_lt h4s).2]
      show Rj _ _ _ _ _ _ (25, [some (.ref 0), some (.int y), some (.int w)], [], (SS true c), Iz, Jz, 0, 0)
      refine r_run okX11_asks 2 (cs := []) (σ' := (28, [some (.ref 0), some (.int y), some (.int w)], [.int 9, .int w], (SS true c), Iz, Jz, 0, 0)) rfl trivial ?_
      refine r_icmp okX11_asks rfl (fun (h28 : ¬ w = (9 : Int32)) => ?_) (fun h280 => ?_)
      · refine r_run okX11_asks 4 (cs := [vp_in w 9]) (σ' := (51, [some (.ref 0), some (.int y), some (.int w)], [.int (Iz 76 w.toNatClampNeg)], (SS true c), Iz, Jz, 0, 0)) rfl ⟨(by obtain ⟨q, h1, h2, h3⟩ := asV_q (I := I) (F := mayB I (I 100 5)) (ls := ls) h4s h14s h28; rw [h2]; exact vin h1 (by decide)), trivial⟩ ?_
        refine r_iret okX11_asks rfl rfl rfl (Nat.le_refl _) (Nat.le_refl _) ?_
        obtain ⟨q, h1, h2, h3⟩ := asV_q (I := I) (F := mayB I (I 100 5)) (ls := ls) h4s h14s h28
        refine ⟨?_, rfl, kI_m (by decide) k1, k2, hB1.1.2.1⟩
        rw [h3, ← ha q h1, h2, nI_clamp (by omega)]
      · have h28 : w = (9 : Int32) := Classical.not_not.mp h280
        refine r_run okX11_asks 4 (cs := []) (σ' := (39, [some (.ref 0), some (.int y), some (.int w)], [.ref 76, .ref 87], (SS true c), Iz, Jz, 0, 0)) rfl trivial ?_
        refine r_callV okX11_asks okX6_firstTrue [.ref 76] [] 87 rfl rfl rfl kkX6_firstTrue rfl rfl (by decide) rfl rfl rfl (by decide) ⟨Nat.le_refl _, Nat.le_refl _⟩ (Nat.le_of_ble_eq_true rfl) (o_firstTrue87 γ (OBy_rul (by decide) h0 hB1) ha) (fun v1 S1 I1 J1 hp => ?_)
        obtain ⟨rfl, rfl, ⟨g1, rfl⟩, rfl⟩ := hp
        show Rj _ _ _ _ _ _ (42, [some (.ref 0), some (.int y), some (.int w)], [.int (bsI (lnN (ansV I (mayB I (I 100 5)) y) ls 0))], (SS true c), (sQ 94 Iz g1), Jz, 0, 0)
        refine r_run okX11_asks 1 (cs := []) (σ' := (51, [some (.ref 0), some (.int y), some (.int w)], [.int (bsI (lnN (ansV I (mayB I (I 100 5)) y) ls 0))], (SS true c), (sQ 94 Iz g1), Jz, 0, 0)) rfl trivial ?_
        refine r_iret okX11_asks rfl rfl rfl (Nat.le_refl _) (Nat.le_refl _) ?_
        exact ⟨by rw [asV_9 h4s h14s h28], rfl, kI_t (kI_m (by decide) k1) (kI_m (by decide) sQ_k), k2, OHea_k (sQ_ne (by decide)) (fun a q1 q2 => sQ_ne (by omega)) (by rw [sQ_ne (by decide)]) (by rw [sQ_ne (by decide)]) (by rw [sQ_ne (by decide)]) rfl rfl hB1.1.2.1⟩
    · have h14 : (bi (inB w 0 9)) = (0 : Int32) := Classical.not_not.mp h140
      have h14s := bi_0.mp h14
      refine r_run okX11_asks 1 (cs := []) (σ' := (19, [some (.ref 0), some (.int y), some (.int w)], [.int (-2)], (SS true c), I, J, 0, 0)) rfl trivial ?_
      refine r_iret okX11_asks rfl rfl rfl (Nat.le_refl _) (Nat.le_refl _) ?_
      exact ⟨by unfold asV; rw [h4s, h14s]; rfl, rfl, kI_r, kJ_r, h.1.2.1⟩
theorem lp_ob87 (γ : GE) {c : Bool} {I0 : AI} {J0 : AJ} {t : Nat} {ls : List Ln} {F : Nat → Nat → Bool} (h0 : OB0 I0 J0 87 ls F) (fin : AI) : ∀ (j k : Nat) (I M : AI) (J : AJ), k + j = 8 → OBy I0 J0 I M J t → ctF F ls M j k = fin → Rj γ mX11_obeyRules 6 0 0 (fun rt S' I' J' => none = rt ∧ (SS true c) = S' ∧ OBy I0 J0 I' fin J' t) (13, [some (.ref 0), some (.int (nI k)), none, none], [], (SS true c), I, J, 0, 0) := by
  intro j
  induction j with
  | zero =>
    intro k I M J hj h hf
    refine r_run okX11_obeyRules 2 (cs := []) (σ' := (16, [some (.ref 0), some (.int (nI k)), none, none], [.int 8, .int (nI k)], (SS true c), I, J, 0, 0)) rfl trivial ?_
    refine r_icmp okX11_obeyRules rfl (fun (h16 : (8 : Int32) ≤ (nI k)) => ?_) (fun (h16 : ¬ (8 : Int32) ≤ (nI k)) => ?_)
    · refine r_vret okX11_obeyRules rfl rfl (Nat.le_refl _) (Nat.le_refl _) ?_
      exact ⟨rfl, rfl, by rw [← hf]; exact h⟩
    · exact absurd (nI_le (a := 8) (by omega) (by omega)) h16
  | succ j ih =>
    intro k I M J hj h hf
    have hk8 : k < 8 := by omega
    refine r_run okX11_obeyRules 2 (cs := []) (σ' := (16, [some (.ref 0), some (.int (nI k)), none, none], [.int 8, .int (nI k)], (SS true c), I, J, 0, 0)) rfl trivial ?_
    refine r_icmp okX11_obeyRules rfl (fun (h16 : (8 : Int32) ≤ (nI k)) => ?_) (fun (h16 : ¬ (8 : Int32) ≤ (nI k)) => ?_)
    · exact absurd h16 (nI_ge (b := 8) (by omega) (by decide))
    · refine r_run okX11_obeyRules 2 (cs := []) (σ' := (21, [some (.ref 0), some (.int (nI k)), none, none], [.int (nI k), .ref 0], (SS true c), I, J, 0, 0)) rfl trivial ?_
      refine r_callV okX11_obeyRules okX11_fillAnswers [.int (nI k)] [] 0 rfl rfl rfl kkX11_fillAnswers rfl rfl (by decide) rfl rfl rfl (by decide) ⟨Nat.le_refl _, Nat.le_refl _⟩ (Nat.le_of_ble_eq_true rfl) (o_fill γ hk8 h.1) (fun v1 S1 I1 J1 hp => ?_)
      obtain ⟨rfl, rfl, k1, k2, hF1, ha0⟩ := hp
      obtain ⟨Iz, eIz⟩ : ∃ z, z = I1 := ⟨_, rfl⟩
      subst eIz
      obtain ⟨Jz, eJz⟩ : ∃ z, z = J1 := ⟨_, rfl⟩
      subst eJz
      have hB1 := OBy_f k1 k2 hF1 h
      have ha : ∀ q, q < 9 → Iz 76 q = (ansV M F (nI k)) q := fun q hq => by rw [ha0 q hq, OBy_ans h0 h hk8 q hq]
      show Rj _ _ _ _ _ _ (24, [some (.ref 0), some (.int (nI k)), none, none], [], (SS true c), Iz, Jz, 0, 0)
      cases hl : lnN (ansV M F (nI k)) ls 0 with
      | none =>
        refine r_run okX11_obeyRules 4 (cs := []) (σ' := (32, [some (.ref 0), some (.int (nI k)), none, none], [.ref 76, .ref 87], (SS true c), Iz, Jz, 0, 0)) rfl trivial ?_
        refine r_callV okX11_obeyRules okX6_firstTrue [.ref 76] [] 87 rfl rfl rfl kkX6_firstTrue rfl rfl (by decide) rfl rfl rfl (by decide) ⟨Nat.le_refl _, Nat.le_refl _⟩ (Nat.le_of_ble_eq_true rfl) (o_firstTrue87 γ (h := (ansV M F (nI k))) (OBy_rul (by decide) h0 hB1) ha) (fun v1 S1 I1 J1 hp => ?_)
        obtain ⟨rfl, rfl, ⟨g1, rfl⟩, rfl⟩ := hp
        have hB2 := OBy_s (g := g1) (a0 := 94) (by decide) hB1
        rw [hl]
        show Rj _ _ _ _ _ _ (35, [some (.ref 0), some (.int (nI k)), none, none], [.int (-1)], (SS true c), (sQ 94 Iz g1), Jz, 0, 0)
        refine r_run okX11_obeyRules 4 (cs := []) (σ' := (41, [some (.ref 0), some (.int (nI k)), some (.int (-1)), none], [.int (-1), .ref 87], (SS true c), (sQ 94 Iz g1), Jz, 0, 0)) rfl trivial ?_
        refine r_callV okX11_obeyRules okX6_deed [.int (-1)] [] 87 rfl rfl rfl kkX6_deed rfl rfl (by decide) rfl rfl rfl (by decide) ⟨Nat.le_refl _, Nat.le_refl _⟩ (Nat.le_of_ble_eq_true rfl) (o_deedN87 γ (OBy_rul (by decide) h0 hB2)) (fun v1 S1 I1 J1 hp => ?_)
        obtain ⟨rfl, rfl, rfl, rfl⟩ := hp
        show Rj _ _ _ _ _ _ (44, [some (.ref 0), some (.int (nI k)), some (.int (-1)), none], [.int 2], (SS true c), (sQ 94 Iz g1), Jz, 0, 0)
        refine r_run okX11_obeyRules 2 (cs := []) (σ' := (46, [some (.ref 0), some (.int (nI k)), some (.int (-1)), some (.int 2)], [.int 2], (SS true c), (sQ 94 Iz g1), Jz, 0, 0)) rfl trivial ?_
        refine r_ifc okX11_obeyRules rfl (fun (h46 : ¬ (2 : Int32) = (0 : Int32)) => ?_) (fun h460 => ?_)
        · refine r_run okX11_obeyRules 2 (cs := []) (σ' := (79, [some (.ref 0), some (.int (nI k)), some (.int (-1)), some (.int 2)], [.int 1, .int 2], (SS true c), (sQ 94 Iz g1), Jz, 0, 0)) rfl trivial ?_
          refine r_icmp okX11_obeyRules rfl (fun (h79 : ¬ (2 : Int32) = (1 : Int32)) => ?_) (fun h790 => ?_)
          · refine r_run okX11_obeyRules 2 (cs := []) (σ' := (13, [some (.ref 0), some (.int ((nI k) + 1)), some (.int (-1)), some (.int 2)], [], (SS true c), (sQ 94 Iz g1), Jz, 0, 0)) rfl trivial ?_
            have ecy : ctyN M F ls (nI k) = M := by unfold ctyN; rw [hl]
            rw [← nI_succ]
            refine r_weak (L' := [some (.ref 0), some (.int (nI (k + 1))), none, none]) ⟨rfl, rfl, trivial⟩ ?_
            exact ih (k + 1) _ _ _ (by omega) hB2 (by rw [← hf, ctF, ecy])
          · have h79 : (2 : Int32) = (1 : Int32) := Classical.not_not.mp h790
            exact absurd h79 (by decide)
        · have h46 : (2 : Int32) = (0 : Int32) := Classical.not_not.mp h460
          exact absurd h46 (by decide)
      | some k1 =>
        have hk1 := lnN_lt hl
        have hkl : k1 < ls.length := by omega
        obtain ⟨q, hq⟩ : ∃ q, ls[k1]? = some q := ⟨_, List.getElem?_eq_getElem hkl⟩
        have hok := (h0.2.2.2.2.1.2.2 k1 q hq).2
        refine r_run okX11_obeyRules 4 (cs := []) (σ' := (32, [some (.ref 0), some (.int (nI k)), none, none], [.ref 76, .ref 87], (SS true c), Iz, Jz, 0, 0)) rfl trivial ?_
        refine r_callV okX11_obeyRules okX6_firstTrue [.ref 76] [] 87 rfl rfl rfl kkX6_firstTrue rfl rfl (by decide) rfl rfl rfl (by decide) ⟨Nat.le_refl _, Nat.le_refl _⟩ (Nat.le_of_ble_eq_true rfl) (o_firstTrue87 γ (OBy_rul (by decide) h0 hB1) ha) (fun v1 S1 I1 J1 hp => ?_)
        obtain ⟨rfl, rfl, ⟨g1, rfl⟩, rfl⟩ := hp
        have hB2 := OBy_s (g := g1) (a0 := 94) (by decide) hB1
        rw [hl]
        show Rj _ _ _ _ _ _ (35, [some (.ref 0), some (.int (nI k)), none, none], [.int (nI k1)], (SS true c), (sQ 94 Iz g1), Jz, 0, 0)
        refine r_run okX11_obeyRules 4 (cs := []) (σ' := (41, [some (.ref 0), some (.int (nI k)), some (.int (nI k1)), none], [.int (nI k1), .ref 87], (SS true c), (sQ 94 Iz g1), Jz, 0, 0)) rfl trivial ?_
        refine r_callV okX11_obeyRules okX6_deed [.int (nI k1)] [] 87 rfl rfl rfl kkX6_deed rfl rfl (by decide) rfl rfl rfl (by decide) ⟨Nat.le_refl _, Nat.le_refl _⟩ (Nat.le_of_ble_eq_true rfl) (o_deed87 γ (OBy_rul (by decide) h0 hB2) hq) (fun v1 S1 I1 J1 hp => ?_)
        obtain ⟨rfl, rfl, rfl, rfl⟩ := hp
        show Rj _ _ _ _ _ _ (44, [some (.ref 0), some (.int (nI k)), some (.int (nI k1)), none], [.int q.1], (SS true c), (sQ 94 Iz g1), Jz, 0, 0)
        refine r_run okX11_obeyRules 2 (cs := []) (σ' := (46, [some (.ref 0), some (.int (nI k)), some (.int (nI k1)), some (.int q.1)], [.int q.1], (SS true c), (sQ 94 Iz g1), Jz, 0, 0)) rfl trivial ?_
        refine r_ifc okX11_obeyRules rfl (fun (h46 : ¬ q.1 = (0 : Int32)) => ?_) (fun h460 => ?_)
        · have q0 : ¬ q.1 = 0 := h46
          refine r_run okX11_obeyRules 2 (cs := []) (σ' := (79, [some (.ref 0), some (.int (nI k)), some (.int (nI k1)), some (.int q.1)], [.int 1, .int q.1], (SS true c), (sQ 94 Iz g1), Jz, 0, 0)) rfl trivial ?_
          refine r_icmp okX11_obeyRules rfl (fun (h79 : ¬ q.1 = (1 : Int32)) => ?_) (fun h790 => ?_)
          · have q1 : ¬ q.1 = 1 := h79
            have q2 : q.1 = 2 := by obtain ⟨z, hz, ez⟩ := hok.1; rw [ez] at q0 q1 ⊢; rcases (show z = 0 ∨ z = 1 ∨ z = 2 by omega) with rfl | rfl | rfl; (· exact absurd rfl q0); (· exact absurd rfl q1); rfl
            refine r_run okX11_obeyRules 2 (cs := []) (σ' := (13, [some (.ref 0), some (.int ((nI k) + 1)), some (.int (nI k1)), some (.int q.1)], [], (SS true c), (sQ 94 Iz g1), Jz, 0, 0)) rfl trivial ?_
            have ecy : ctyN M F ls (nI k) = M := by unfold ctyN; rw [hl]; simp only [hq]; rw [if_pos q2]
            rw [← nI_succ]
            refine r_weak (L' := [some (.ref 0), some (.int (nI (k + 1))), none, none]) ⟨rfl, rfl, trivial⟩ ?_
            exact ih (k + 1) _ _ _ (by omega) hB2 (by rw [← hf, ctF, ecy])
          · have h79 : q.1 = (1 : Int32) := Classical.not_not.mp h790
            have q1 : q.1 = 1 := h79
            refine r_run okX11_obeyRules 5 (cs := []) (σ' := (91, [some (.ref 0), some (.int (nI k)), some (.int (nI k1)), some (.int q.1)], [.int ((sQ 94 Iz g1) 0 15), .int (nI k), .ref 52], (SS true c), (sQ 94 Iz g1), Jz, 0, 0)) rfl trivial ?_
            refine r_callV okX11_obeyRules okX10_stop [.int (nI k), .int ((sQ 94 Iz g1) 0 15)] [] 52 rfl rfl rfl kkX10_stop rfl rfl (by decide) rfl rfl rfl (by decide) ⟨Nat.le_refl _, Nat.le_refl _⟩ (Nat.le_of_ble_eq_true rfl) (g_stop γ hB2.1.2.2.1 hB2.1.2.2.2.1 hB2.1.2.2.2.2.1 hk8 (hB2.1.2.2.2.2.2.2.1.trans hB2.1.2.2.2.2.2.2.2.1.symm)) (fun v1 S1 I1 J1 hp => ?_)
            obtain ⟨rfl, rfl, rfl, rfl⟩ := hp
            show Rj _ _ _ _ _ _ (94, [some (.ref 0), some (.int (nI k)), some (.int (nI k1)), some (.int q.1)], [.int (bi (lifB M (nI k)))], (SS true c), (stoG (sQ 94 Iz g1) M (nI k)), Jz, 0, 0)
            refine r_run okX11_obeyRules 3 (cs := []) (σ' := (13, [some (.ref 0), some (.int ((nI k) + 1)), some (.int (nI k1)), some (.int q.1)], [], (SS true c), (stoG (sQ 94 Iz g1) M (nI k)), Jz, 0, 0)) rfl trivial ?_
            have ecy : ctyN M F ls (nI k) = lifN M (nI k) := by unfold ctyN; rw [hl]; simp only [hq]; rw [q1, if_neg (by decide), if_pos rfl]
            rw [← nI_succ]
            refine r_weak (L' := [some (.ref 0), some (.int (nI (k + 1))), none, none]) ⟨rfl, rfl, trivial⟩ ?_
            exact ih (k + 1) _ _ _ (by omega) (OBy_lif hB2 (nI k)) (by rw [← hf, ctF, ecy])
        · have h46 : q.1 = (0 : Int32) := Classical.not_not.mp h460
          have q0 : q.1 = 0 := h46
          refine r_run okX11_obeyRules 10 (cs := []) (σ' := (67, [some (.ref 0), some (.int (nI k)), some (.int (nI k1)), some (.int q.1)], [.ref 76, .int (nI k1), .ref 87, .int ((sQ 94 Iz g1) 0 15), .int (nI k), .ref 52], (SS true c), (sQ 94 Iz g1), Jz, 0, 0)) rfl trivial ?_
          refine r_callV okX11_obeyRules okX6_span [.int (nI k1), .ref 76] [.int ((sQ 94 Iz g1) 0 15), .int (nI k), .ref 52] 87 rfl rfl rfl kkX6_span rfl rfl (by decide) rfl rfl rfl (by decide) ⟨Nat.le_refl _, Nat.le_refl _⟩ (Nat.le_of_ble_eq_true rfl) (o_span87 γ (h := (ansV M F (nI k))) (OBy_rul (by decide) h0 hB2) (fun q hq => by rw [sQ_ne (by decide)]; exact ha q hq) hq q0) (fun v1 S1 I1 J1 hp => ?_)
          obtain ⟨rfl, rfl, ⟨g2, rfl⟩, rfl⟩ := hp
          have hB3 := OBy_s (g := g2) (a0 := 94) (by decide) hB2
          show Rj _ _ _ _ _ _ (70, [some (.ref 0), some (.int (nI k)), some (.int (nI k1)), some (.int q.1)], [.int (spnV (ansV M F (nI k)) q.2.1), .int ((sQ 94 Iz g1) 0 15), .int (nI k), .ref 52], (SS true c), (sQ 94 (sQ 94 Iz g1) g2), Jz, 0, 0)
          refine r_callV okX11_obeyRules okX10_issue [.int (nI k), .int ((sQ 94 Iz g1) 0 15), .int (spnV (ansV M F (nI k)) q.2.1)] [] 52 rfl rfl rfl kkX10_issue rfl rfl (by decide) rfl rfl rfl (by decide) ⟨Nat.le_refl _, Nat.le_refl _⟩ (Nat.le_of_ble_eq_true rfl) (g_issue γ hB3.1.2.2.1 hB3.1.2.2.2.1 hB3.1.2.2.2.2.1 hk8 (spnV (ansV M F (nI k)) q.2.1) (OBy_s7 h0 hB3) (hB2.1.2.2.2.2.2.2.1.trans hB2.1.2.2.2.2.2.2.2.1.symm)) (fun v1 S1 I1 J1 hp => ?_)
          obtain ⟨rfl, rfl, hz⟩ := hp
          obtain ⟨Iw, eIw⟩ : ∃ z, z = I1 := ⟨_, rfl⟩
          subst eIw
          obtain ⟨Jw, eJw⟩ : ∃ z, z = J1 := ⟨_, rfl⟩
          subst eJw
          have hB4 := OBy_iss hB3 hk8 (by rw [spn_clM]; exact clM_rg _) hz
          show Rj _ _ _ _ _ _ (73, [some (.ref 0), some (.int (nI k)), some (.int (nI k1)), some (.int q.1)], [.int (begV M (nI k))], (SS true c), Iw, Jw, 0, 0)
          refine r_run okX11_obeyRules 4 (cs := []) (σ' := (13, [some (.ref 0), some (.int ((nI k) + 1)), some (.int (nI k1)), some (.int q.1)], [], (SS true c), Iw, Jw, 0, 0)) rfl trivial ?_
          have ecy : ctyN M F ls (nI k) = begN M (nI k) (spnV (ansV M F (nI k)) q.2.1) := by unfold ctyN; rw [hl]; simp only [hq]; rw [q0, if_neg (by decide), if_neg (by decide), spn_clM]
          rw [← nI_succ]
          refine r_weak (L' := [some (.ref 0), some (.int (nI (k + 1))), none, none]) ⟨rfl, rfl, trivial⟩ ?_
          exact ih (k + 1) _ _ _ (by omega) hB4 (by rw [← hf, ctF, ecy])
theorem o_obey87 (γ : GE) {c : Bool} {I0 : AI} {J0 : AJ} {t : Nat} {ls : List Ln} {F : Nat → Nat → Bool} (h0 : OB0 I0 J0 87 ls F) {I M : AI} {J : AJ} (h : OBy I0 J0 I M J t) : Ct γ mX11_obeyRules 6 0 0 [.ref 0] (SS true c) I J (fun rt S' I' J' => none = rt ∧ (SS true c) = S' ∧ OBy I0 J0 I' (ctF F ls M 8 0) J' t) := by
  refine ct_of okX11_obeyRules (L := [some (.ref 0), none, none, none]) (Nat.le_of_ble_eq_true rfl) rfl ?_
  refine r_run okX11_obeyRules 2 (cs := []) (σ' := (4, [some (.ref 0), none, none, none], [.ref 87], (SS true c), I, J, 0, 0)) rfl trivial ?_
  refine r_callV okX11_obeyRules okX6_size [] [] 87 rfl rfl rfl kkX6_size rfl rfl (by decide) rfl rfl rfl (by decide) ⟨Nat.le_refl _, Nat.le_refl _⟩ (Nat.le_of_ble_eq_true rfl) (o_rsize87 γ) (fun v1 S1 I1 J1 hp => ?_)
  obtain ⟨rfl, rfl, rfl, rfl⟩ := hp
  show Rj _ _ _ _ _ _ (7, [some (.ref 0), none, none, none], [.int (I 87 8)], (SS true c), I, J, 0, 0)
  refine r_ifc okX11_obeyRules rfl (fun (h7 : ¬ (I 87 8) = (0 : Int32)) => ?_) (fun h70 => ?_)
  · refine r_run okX11_obeyRules 2 (cs := []) (σ' := (13, [some (.ref 0), some (.int 0), none, none], [], (SS true c), I, J, 0, 0)) rfl trivial ?_
    have z := lp_ob87 γ (c := c) h0 (ctF F ls M 8 0) 8 0 I M J (by omega) h rfl
    rw [nI_0] at z
    exact r_weak (L' := [some (.ref 0), some (.int 0), none, none]) ⟨rfl, rfl, trivial⟩ z
  · have h7 : (I 87 8) = (0 : Int32) := Classical.not_not.mp h70
    refine r_vret okX11_obeyRules rfl rfl (Nat.le_refl _) (Nat.le_refl _) ?_
    refine ⟨rfl, rfl, ?_⟩
    have hR := OBy_rul (by decide) h0 h
    have z : ls = [] := by
      have e := hR.2.1.symm.trans h7
      exact List.length_eq_zero_iff.mp (nI_inj (by have := hR.1; omega) (by decide) e)
    subst z; rw [ctF_nil]; exact h
theorem lp_mi87 (γ : GE) {c : Bool} {I0 : AI} {J0 : AJ} {ls : List Ln} {F : Nat → Nat → Bool} (h0 : OB0 I0 J0 87 ls F) (fin : AI) (n t0 : Nat) (hn : n ≤ 60) (htn : t0 + n < 720) : ∀ (j k : Nat) (I M : AI) (J : AJ), k + j = n → OBy I0 J0 I M J (t0 + k) → mnN F ls M j = fin → Rj γ mX11_minutes 7 0 0 (fun rt S' I' J' => some (.int (nI (t0 + n))) = rt ∧ (SS true c) = S' ∧ OBy I0 J0 I' fin J' (t0 + n)) (26, [some (.ref 0), some (.int (nI n)), some (.int (nI k))], [], (SS true c), I, J, 0, 0) := by
  intro j
  induction j with
  | zero =>
    intro k I M J hj h hf
    refine r_run okX11_minutes 2 (cs := []) (σ' := (28, [some (.ref 0), some (.int (nI n)), some (.int (nI k))], [.int (nI n), .int (nI k)], (SS true c), I, J, 0, 0)) rfl trivial ?_
    refine r_icmp okX11_minutes rfl (fun (h28 : (nI n) ≤ (nI k)) => ?_) (fun (h28 : ¬ (nI n) ≤ (nI k)) => ?_)
    · refine r_run okX11_minutes 2 (cs := []) (σ' := (62, [some (.ref 0), some (.int (nI n)), some (.int (nI k))], [.int (I 0 15)], (SS true c), I, J, 0, 0)) rfl trivial ?_
      refine r_iret okX11_minutes rfl rfl rfl (Nat.le_refl _) (Nat.le_refl _) ?_
      have e : k = n := by omega
      subst e
      exact ⟨by rw [h.1.2.2.2.2.2.2.1], rfl, by rw [← hf]; exact h⟩
    · exact absurd (nI_le (a := n) (by omega) (by omega)) h28
  | succ j ih =>
    intro k I M J hj h hf
    refine r_run okX11_minutes 2 (cs := []) (σ' := (28, [some (.ref 0), some (.int (nI n)), some (.int (nI k))], [.int (nI n), .int (nI k)], (SS true c), I, J, 0, 0)) rfl trivial ?_
    refine r_icmp okX11_minutes rfl (fun (h28 : (nI n) ≤ (nI k)) => ?_) (fun (h28 : ¬ (nI n) ≤ (nI k)) => ?_)
    · exact absurd h28 (nI_ge (b := n) (by omega) (by omega))
    · refine r_run okX11_minutes 2 (cs := []) (σ' := (35, [some (.ref 0), some (.int (nI n)), some (.int (nI k))], [.int (I 0 14)], (SS true c), I, J, 0, 0)) rfl trivial ?_
      refine r_ifc okX11_minutes rfl (fun (h35 : (I 0 14) = (0 : Int32)) => ?_) (fun (h35 : ¬ (I 0 14) = (0 : Int32)) => ?_)
      · refine r_run okX11_minutes 8 (cs := []) (σ' := (26, [some (.ref 0), some (.int (nI n)), some (.int ((nI k) + 1))], [], (SS true c), (upI I 0 15 ((I 0 15) + 1)), J, 0, 0)) rfl trivial ?_
        have e44 : M 100 44 = 0 := by rw [h.2.2.2.2.2.2.2, ← h0.2.2.2.2.2.2, ← h.2.2.2.2.2.2.1]; exact h35
        rw [← nI_succ]
        refine ih (k + 1) _ _ _ (by omega) (OBy_n (t := t0 + k) h (by omega)) ?_
        rw [← hf, mnN, mgN, if_pos e44]
      · refine r_run okX11_minutes 1 (cs := []) (σ' := (39, [some (.ref 0), some (.int (nI n)), some (.int (nI k))], [.ref 0], (SS true c), I, J, 0, 0)) rfl trivial ?_
        refine r_callV okX11_minutes okX11_obeyRules [] [] 0 rfl rfl rfl kkX11_obeyRules rfl rfl (by decide) rfl rfl rfl (by decide) ⟨Nat.le_refl _, Nat.le_refl _⟩ (Nat.le_of_ble_eq_true rfl) (o_obey87 γ h0 h) (fun v1 S1 I1 J1 hp => ?_)
        obtain ⟨rfl, rfl, hB1⟩ := hp
        obtain ⟨Iz, eIz⟩ : ∃ z, z = I1 := ⟨_, rfl⟩
        subst eIz
        obtain ⟨Jz, eJz⟩ : ∃ z, z = J1 := ⟨_, rfl⟩
        subst eJz
        show Rj _ _ _ _ _ _ (42, [some (.ref 0), some (.int (nI n)), some (.int (nI k))], [], (SS true c), Iz, Jz, 0, 0)
        refine r_run okX11_minutes 8 (cs := []) (σ' := (26, [some (.ref 0), some (.int (nI n)), some (.int ((nI k) + 1))], [], (SS true c), (upI Iz 0 15 ((Iz 0 15) + 1)), Jz, 0, 0)) rfl trivial ?_
        have e44 : ¬ M 100 44 = 0 := by rw [h.2.2.2.2.2.2.2, ← h0.2.2.2.2.2.2, ← h.2.2.2.2.2.2.1]; exact h35
        rw [← nI_succ]
        refine ih (k + 1) _ _ _ (by omega) (OBy_n (t := t0 + k) hB1 (by omega)) ?_
        rw [← hf, mnN, mgN, if_neg e44]
        rw [show ctF F ls M 8 0 100 5 = M 100 5 from ctF_fr rfl (fun _ => by decide) 8 0 M]
theorem o_minutes187 (γ : GE) {c : Bool} {I : AI} {J : AJ} {t : Nat} {ls : List Ln} {F : Nat → Nat → Bool} (h0 : OB0 I J 87 ls F) (h : OBy I J I I J t) {n : Nat} (hn60 : n ≤ 60) : Ct γ mX11_minutes 7 0 0 [.ref 0, .int (nI n)] (SS true c) I J (fun rt S' I' J' => some (.int (mnV I (nI n))) = rt ∧ (SS true c) = S' ∧ (mnB I (nI n) = true → OBy I J I' (mnN F ls I n) J' (t + n)) ∧ (mnB I (nI n) = false → I = I' ∧ J = J')) := by
  refine ct_of okX11_minutes (L := [some (.ref 0), some (.int (nI n)), none]) (Nat.le_of_ble_eq_true rfl) rfl ?_
  refine r_run okX11_minutes 3 (cs := []) (σ' := (4, [some (.ref 0), some (.int (nI n)), none], [.int 60, .int 1, .int (nI n)], (SS true c), I, J, 0, 0)) rfl trivial ?_
  refine r_callS okX11_minutes okX11_within [.int (nI n), .int 1, .int 60] [] rfl rfl rfl kkX11_within rfl rfl (by decide) (by decide) ⟨Nat.le_refl _, Nat.le_refl _⟩ (Nat.le_of_ble_eq_true rfl) (o_win γ (nI n) 1 60) (fun v1 S1 I1 J1 hp => ?_)
  obtain ⟨rfl, rfl, rfl, rfl⟩ := hp
  show Rj _ _ _ _ _ _ (7, [some (.ref 0), some (.int (nI n)), none], [.int (bi (inB (nI n) 1 60))], (SS true c), I, J, 0, 0)
  refine r_ifc okX11_minutes rfl (fun (h7 : (bi (inB (nI n) 1 60)) = (0 : Int32)) => ?_) (fun (h7 : ¬ (bi (inB (nI n) 1 60)) = (0 : Int32)) => ?_)
  · have h7s := bi_0.mp h7
    refine r_run okX11_minutes 1 (cs := []) (σ' := (23, [some (.ref 0), some (.int (nI n)), none], [.int (-1)], (SS true c), I, J, 0, 0)) rfl trivial ?_
    refine r_iret okX11_minutes rfl rfl rfl (Nat.le_refl _) (Nat.le_refl _) ?_
    have hb : mnB I (nI n) = false := by unfold mnB; rw [h7s]; rfl
    exact ⟨by rw [mnV, hb]; rfl, rfl, (fun z => absurd (hb.symm.trans z) (by decide)), fun _ => ⟨rfl, rfl⟩⟩
  · have h7s := bi_n0.mp h7
    refine r_run okX11_minutes 5 (cs := []) (σ' := (19, [some (.ref 0), some (.int (nI n)), none], [.int 720, .int ((I 0 15) + (nI n))], (SS true c), I, J, 0, 0)) rfl trivial ?_
    refine r_icmp okX11_minutes rfl (fun (h19 : ((I 0 15) + (nI n)) < (720 : Int32)) => ?_) (fun (h19 : ¬ ((I 0 15) + (nI n)) < (720 : Int32)) => ?_)
    · refine r_run okX11_minutes 2 (cs := []) (σ' := (26, [some (.ref 0), some (.int (nI n)), some (.int 0)], [], (SS true c), I, J, 0, 0)) rfl trivial ?_
      have z := lp_mi87 γ (c := c) h0 (mnN F ls I n) n t (by omega) (by have := mn_in h.1.2.2.2.2.2.1 (show n ≤ 60 by omega) (h.1.2.2.2.2.2.2.1 ▸ h19); omega) n 0 I I J (by omega) h rfl
      rw [nI_0] at z
      refine r_post (fun v S1 I1 J1 q => ?_) z
      have hb : mnB I (nI n) = true := by
        unfold mnB; rw [h7s, h.1.2.2.2.2.2.2.2.1.trans h.1.2.2.2.2.2.2.1.symm]
        exact (Bool.and_eq_true_iff.mpr ⟨rfl, decide_eq_true h19⟩)
      refine ⟨?_, q.2.1, fun _ => q.2.2, fun z => absurd (hb.symm.trans z) (by decide)⟩
      rw [← q.1, mnV, if_pos hb, h.1.2.2.2.2.2.2.2.1, nI_ad]
    · refine r_run okX11_minutes 1 (cs := []) (σ' := (23, [some (.ref 0), some (.int (nI n)), none], [.int (-1)], (SS true c), I, J, 0, 0)) rfl trivial ?_
      refine r_iret okX11_minutes rfl rfl rfl (Nat.le_refl _) (Nat.le_refl _) ?_
      have hb : mnB I (nI n) = false := by unfold mnB; rw [h.1.2.2.2.2.2.2.2.1.trans h.1.2.2.2.2.2.2.1.symm]; exact Bool.and_eq_false_iff.mpr (Or.inr (decide_eq_false h19))
      exact ⟨by rw [mnV, hb]; rfl, rfl, (fun z => absurd (hb.symm.trans z) (by decide)), fun _ => ⟨rfl, rfl⟩⟩
theorem o_minutes087 (γ : GE) {c : Bool} {I : AI} {J : AJ} {t : Nat} {ls : List Ln} {F : Nat → Nat → Bool} (h0 : OB0 I J 87 ls F) (h : OBy I J I I J t) {n : Int32} (hb : inB n 1 60 = false) : Ct γ mX11_minutes 7 0 0 [.ref 0, .int n] (SS true c) I J (fun rt S' I' J' => some (.int (mnV I n)) = rt ∧ (SS true c) = S' ∧ (mnB I n = true → OBy I J I' (mnN F ls I (nv n)) J' (t + nv n)) ∧ (mnB I n = false → I = I' ∧ J = J')) := by
  refine ct_of okX11_minutes (L := [some (.ref 0), some (.int n), none]) (Nat.le_of_ble_eq_true rfl) rfl ?_
  refine r_run okX11_minutes 3 (cs := []) (σ' := (4, [some (.ref 0), some (.int n), none], [.int 60, .int 1, .int n], (SS true c), I, J, 0, 0)) rfl trivial ?_
  refine r_callS okX11_minutes okX11_within [.int n, .int 1, .int 60] [] rfl rfl rfl kkX11_within rfl rfl (by decide) (by decide) ⟨Nat.le_refl _, Nat.le_refl _⟩ (Nat.le_of_ble_eq_true rfl) (o_win γ n 1 60) (fun v1 S1 I1 J1 hp => ?_)
  obtain ⟨rfl, rfl, rfl, rfl⟩ := hp
  show Rj _ _ _ _ _ _ (7, [some (.ref 0), some (.int n), none], [.int (bi (inB n 1 60))], (SS true c), I, J, 0, 0)
  refine r_ifc okX11_minutes rfl (fun (h7 : (bi (inB n 1 60)) = (0 : Int32)) => ?_) (fun (h7 : ¬ (bi (inB n 1 60)) = (0 : Int32)) => ?_)
  · have h7s := bi_0.mp h7
    refine r_run okX11_minutes 1 (cs := []) (σ' := (23, [some (.ref 0), some (.int n), none], [.int (-1)], (SS true c), I, J, 0, 0)) rfl trivial ?_
    refine r_iret okX11_minutes rfl rfl rfl (Nat.le_refl _) (Nat.le_refl _) ?_
    have hc : mnB I n = false := by unfold mnB; rw [hb]; rfl
    exact ⟨by rw [mnV, hc]; rfl, rfl, (fun z => absurd (hc.symm.trans z) (by decide)), fun _ => ⟨rfl, rfl⟩⟩
  · have h7s := bi_n0.mp h7
    exact absurd (hb.symm.trans h7s) (by decide)
theorem o_minutes87 (γ : GE) {c : Bool} {I : AI} {J : AJ} {t : Nat} {ls : List Ln} {F : Nat → Nat → Bool} (h0 : OB0 I J 87 ls F) (h : OBy I J I I J t) (n : Int32) : Ct γ mX11_minutes 7 0 0 [.ref 0, .int n] (SS true c) I J (fun rt S' I' J' => some (.int (mnV I n)) = rt ∧ (SS true c) = S' ∧ (mnB I n = true → OBy I J I' (mnN F ls I (nv n)) J' (t + nv n)) ∧ (mnB I n = false → I = I' ∧ J = J')) := by
  cases hb : inB n 1 60 with
  | false => exact o_minutes087 γ h0 h hb
  | true =>
    obtain ⟨k, hk, rfl⟩ : rg 61 n := inB_rg (n := 60) (by decide) (inB_t.mpr ⟨Int32.le_trans (by decide) (inB_t.mp hb).1, (inB_t.mp hb).2⟩)
    rw [nv_nI (by omega)]
    exact o_minutes187 γ h0 h (by omega)
