/-! ===== StormOffice: fillAnswers ===== -/
def FA (I M : AI) (J : AJ) (t : Nat) : Prop := HBs I J ∧ OHea I J ∧ OWarG I M J ∧ MWar M ∧ WDis M ∧ t < 720 ∧ I 0 15 = nI t ∧ M 100 5 = nI t ∧ (∀ k, k < 8 → cs J (8 + k) (cyB I k))
theorem OWarG_k {I I' M : AI} {J J' : AJ} (h : ∀ a, 52 ≤ a → a ≤ 61 → I' a = I a) (hJ8 : J' 58 = J 58) (hJ9 : J' 59 = J 59) (hO : OWarG I M J) : OWarG I' M J' := by
  refine ⟨by rw [h 52 (by omega) (by omega)]; exact hO.1, fun w hw => ?_, fun k hk => ?_⟩
  · rw [h 53 (by omega) (by omega), h 54 (by omega) (by omega), h 55 (by omega) (by omega), h 56 (by omega) (by omega), h 57 (by omega) (by omega), hJ8, hJ9]; exact hO.2.1 w hw
  · rw [h 60 (by omega) (by omega), h 61 (by omega) (by omega)]; exact hO.2.2 k hk
theorem k3_ne {I I' : AI} (h : kI [37, 76] I I') {a : Nat} (h1 : ¬ a = 37) (h2 : ¬ a = 76) : I' a = I a := h a (by simp; exact ⟨h1, h2⟩)
theorem HBs_3 {I I' : AI} {J J' : AJ} (h : kI [37, 76] I I') (hJ : kJ [38, 39, 40, 41, 77] J J') (hB : HBs I J) : HBs I' J' := by
  have e := k3_ne h (a := 100) (by decide) (by decide)
  have hb : ∀ a, 105 ≤ a → a ≤ 115 → I' a = I a := fun a q1 q2 => k3_ne h (by omega) (by omega)
  exact ⟨OTel_k (fun a q1 q2 => k3_ne h (by omega) (by omega)) hb (by rw [e]) (by rw [e]) hB.1, MTel_k hb (by rw [e]) hB.2.1, MRad_k hb hB.2.2.1, ORad_k (fun r hr => k3_ne h (by omega) (by omega)) hb (fun a q1 q2 => hJ a (by simp; omega)) hB.2.2.2.1, by rw [e]; exact hB.2.2.2.2.1, by rw [e]; exact hB.2.2.2.2.2⟩
theorem cyB_e {I I' : AI} (h : I' 101 = I 101) (k : Nat) : cyB I' k = cyB I k := by funext x; unfold cyB; rw [h]
/-- only answers and the heart's cache have changed -/
theorem FA_k {I I' M : AI} {J J' : AJ} {t : Nat} (h : kI [37, 76] I I') (hJ : kJ [38, 39, 40, 41, 77] J J') (hH : OHea I' J') (hF : FA I M J t) : FA I' M J' t := by
  obtain ⟨a1, a2, a3, a4, a5, a6, a7, a8, a9⟩ := hF
  exact ⟨HBs_3 h hJ a1, hH, OWarG_k (fun a q1 q2 => k3_ne h (by omega) (by omega)) (hJ 58 (by decide)) (hJ 59 (by decide)) a3, a4, a5, a6, by rw [k3_ne h (by decide) (by decide)]; exact a7, a8, fun k hk => by rw [cyB_e (k3_ne h (by decide) (by decide))]; exact cs_k (hJ _ (by simp; omega)) (a9 k hk)⟩
theorem FA_u {I M : AI} {J : AJ} {t q : Nat} {v : Int32} (hF : FA I M J t) : FA (upI I 76 q v) M J t :=
  FA_k (kI_up (by decide)) kJ_r (OHea_k (upI_ne (by decide)) (fun a q1 q2 => upI_ne (by omega)) (by rw [upI_ne (by decide)]) (by rw [upI_ne (by decide)]) (by rw [upI_ne (by decide)]) rfl rfl hF.2.1) hF
/-- the answers -/
def aN (I M : AI) (t k : Nat) : Nat → Int32
  | 0 => nI (sC I 0 (cyB I k) (nv (I 100 13)) (t + 1 - (t - 9)) (t - 9))
  | 1 => nI (sC I 1 (cyB I k) (nv (I 100 13)) (t + 1 - (t - 9)) (t - 9))
  | 2 => nI (sC I 2 (cyB I k) (nv (I 100 13)) (t + 1 - (t - 9)) (t - 9))
  | 3 => nI (cnt (fun x => mayK I (nv (I 100 13)) t x && cyB I k x) 96)
  | 4 => sooN I (mayK I (nv (I 100 13)) t) k 13
  | 5 => I 6 k
  | 6 => lefV M (nI k)
  | 7 => M 133 k
  | _ => nI t / 60
theorem f_rec (γ : GE) {b c : Bool} {I M : AI} {J : AJ} {t k : Nat} (hk : k < 8) (hF : FA I M J t) (s : Int32) {X : Int32} (eX : X = I 0 15) : Ct γ mX7_recentIn 1 0 0 [.ref 29, .ref (8 + k), .int s, .int X] (SS b c) I J (rI (nI (sC I s (cyB I k) (nv (I 100 13)) (t + 1 - (t - 9)) (t - 9))) (SS b c) I J) := by
  subst eX; rw [hF.2.2.2.2.2.2.1]
  exact o_recentIn γ hF.1.1 hF.1.2.1 (SSm hk) (hF.2.2.2.2.2.2.2.2 k hk) s hF.2.2.2.2.2.1
theorem f_loc (γ : GE) {b c : Bool} {I M : AI} {J : AJ} {t : Nat} (hF : FA I M J t) {X : Int32} (eX : X = I 0 15) : Ct γ mX1_locate 4 0 0 [.ref 37, .int X, .int (I 100 13), .ref 77] (SS b c) I J (fun rt S' I' J' => none = rt ∧ (SS b c) = S' ∧ LoP I J (mayK I (nv (I 100 13)) t) I' J') := by
  subst eX
  exact o_locX γ (t := t) (kn := nv (I 100 13)) hF.2.2.2.2.2.1 ⟨(rg_nv hF.1.2.1.1 (by decide)).1, Nat.le_refl _⟩ hF.1 hF.2.1 hF.2.2.2.2.2.2.1 (rg_nv hF.1.2.1.1 (by decide)).2
theorem f_soon (γ : GE) {b c : Bool} {I M : AI} {J : AJ} {t k : Nat} (hk : k < 8) (hF : FA I M J t) {f : Nat → Bool} (hc : cs J 77 f) : Ct γ mX11_soonIn 2 0 0 [.ref 0, .ref (8 + k)] (SS b c) I J (fun rt S' I' J' => some (.int (sooN I f k 13)) = rt ∧ (SS b c) = S' ∧ I = I' ∧ kJ [77] J J') :=
  o_soonIn γ hF.2.1.1 rfl (rg_nv hF.1.2.2.2.2.1 (by decide)).1 (rg_nv hF.1.2.2.2.2.1 (by decide)).2 hk (hF.2.2.2.2.2.2.2.2 k hk) hc
theorem f_left (γ : GE) {b c : Bool} {I M : AI} {J : AJ} {t k : Nat} (hk : k < 8) (hF : FA I M J t) {X : Int32} (eX : X = I 0 15) : Ct γ mX10_left 1 0 0 [.ref 52, .int (nI k), .int X] (SS b c) I J (rI (lefV M (nI k)) (SS b c) I J) :=
  g_left γ hF.2.2.1 hF.2.2.2.1 hF.2.2.2.2.1 hk (eX.trans (hF.2.2.2.2.2.2.1.trans hF.2.2.2.2.2.2.2.1.symm))
theorem f_ears (γ : GE) {b c : Bool} {I M : AI} {J : AJ} {t k : Nat} (hk : k < 8) (hF : FA I M J t) : Ct γ mX10_earsOf 0 0 0 [.ref 52, .int (nI k)] (SS b c) I J (rI (M 133 k) (SS b c) I J) := g_earsOf γ hF.2.2.1 hF.2.2.2.1 hk
theorem sC_e {I I' : AI} (h : kI [37, 76] I I') (s : Int32) (k j t : Nat) : sC I' s (cyB I' k) (nv (I' 100 13)) j t = sC I s (cyB I k) (nv (I 100 13)) j t := by
  rw [cyB_e (k3_ne h (by decide) (by decide)), k3_ne h (a := 100) (by decide) (by decide)]
  induction j generalizing t with
  | zero => rfl
  | succ j ih =>
    unfold sC; rw [ih]
    rw [show rcB I' s (cyB I k) t = rcB I s (cyB I k) t from funext fun i => by unfold rcB; rw [k3_ne h (a := 112) (by decide) (by decide), k3_ne h (a := 110) (by decide) (by decide), k3_ne h (a := 113) (by decide) (by decide)]]
theorem x_rec (γ : GE) {b c : Bool} {I I0 M : AI} {J : AJ} {t k : Nat} (hk : k < 8) (h3 : kI [37, 76] I I0) (hF : FA I0 M J t) (s : Int32) {X : Int32} (eX : X = I0 0 15) : Ct γ mX7_recentIn 1 0 0 [.ref 29, .ref (8 + k), .int s, .int X] (SS b c) I0 J (rI (nI (sC I s (cyB I k) (nv (I 100 13)) (t + 1 - (t - 9)) (t - 9))) (SS b c) I0 J) := by
  rw [← sC_e h3]; exact f_rec γ hk hF s eX
theorem x_size (γ : GE) {b c : Bool} {I I0 M : AI} {J : AJ} {t : Nat} (h3 : kI [37, 76] I I0) (hF : FA I0 M J t) : Ct γ mX7_size 0 0 0 [.ref 29] (SS b c) I0 J (rI (I 100 13) (SS b c) I0 J) := by
  rw [← k3_ne h3 (a := 100) (by decide) (by decide)]; exact o_tsize γ hF.1.1
theorem x_loc (γ : GE) {b c : Bool} {I I0 M : AI} {J : AJ} {t : Nat} (h3 : kI [37, 76] I I0) (hF : FA I0 M J t) {X : Int32} (eX : X = I0 0 15) : Ct γ mX1_locate 4 0 0 [.ref 37, .int X, .int (I 100 13), .ref 77] (SS b c) I0 J (fun rt S' I' J' => none = rt ∧ (SS b c) = S' ∧ LoP I0 J (mayK I (nv (I 100 13)) t) I' J') := by
  have e := k3_ne h3 (a := 100) (by decide) (by decide)
  have q := f_loc γ (b := b) (c := c) hF eX
  rw [show mayK I0 (nv (I0 100 13)) t = mayK I (nv (I 100 13)) t from funext fun x => by rw [e]; exact mayK_k (fun a q1 q2 => k3_ne h3 (by omega) (by omega)) (by rw [e]) (by rw [e]) (by rw [e]) _ t x, e] at q
  exact q
theorem x_soon (γ : GE) {b c : Bool} {I I0 M : AI} {J : AJ} {t k : Nat} (hk : k < 8) (h3 : kI [37, 76] I I0) (hF : FA I0 M J t) {f : Nat → Bool} (hc : cs J 77 f) : Ct γ mX11_soonIn 2 0 0 [.ref 0, .ref (8 + k)] (SS b c) I0 J (fun rt S' I' J' => some (.int (sooN I f k 13)) = rt ∧ (SS b c) = S' ∧ I0 = I' ∧ kJ [77] J J') := by
  rw [← sooN_e (k3_ne h3 (a := 101) (by decide) (by decide)) (by rw [k3_ne h3 (a := 100) (by decide) (by decide)])]; exact f_soon γ hk hF hc
theorem x_ppl (γ : GE) {b c : Bool} {I I0 : AI} {J : AJ} {k : Nat} (hk : k < 8) (h3 : kI [37, 76] I I0) : Ct γ mX2_peopleOf 0 0 0 [.ref 1, .int (nI k)] (SS b c) I0 J (rI (I 6 k) (SS b c) I0 J) := by
  rw [← k3_ne h3 (a := 6) (by decide) (by decide)]; exact o_peopleOf γ hk
theorem o_fill (γ : GE) {b c : Bool} {I M : AI} {J : AJ} {t k : Nat} (hk : k < 8) (hF : FA I M J t) : Ct γ mX11_fillAnswers 5 0 0 [.ref 0, .int (nI k)] (SS b c) I J (fun rt S' I' J' => none = rt ∧ (SS b c) = S' ∧ kI [37, 76] I I' ∧ kJ [38, 39, 40, 41, 77] J J' ∧ FA I' M J' t ∧ ∀ q, q < 9 → I' 76 q = aN I M t k q) := by
  refine ct_of okX11_fillAnswers (L := [some (.ref 0), some (.int (nI k)), none]) (Nat.le_of_ble_eq_true rfl) rfl ?_
  refine r_run okX11_fillAnswers 3 (cs := []) (σ' := (5, [some (.ref 0), some (.int (nI k)), none], [.int (nI k), .ref 1], (SS b c), I, J, 0, 0)) rfl trivial ?_
  refine r_callV okX11_fillAnswers okX2_cellsOf [.int (nI k)] [] 1 rfl rfl rfl kkX2_cellsOf rfl rfl (by decide) rfl rfl rfl (by decide) ⟨Nat.le_refl _, Nat.le_refl _⟩ (Nat.le_of_ble_eq_true rfl) (o_cellsOf γ hk) (fun v1 S1 I1 J1 hp => ?_)
  obtain ⟨rfl, rfl, rfl, rfl⟩ := hp
  show Rj _ _ _ _ _ _ (8, [some (.ref 0), some (.int (nI k)), none], [.ref (8 + k)], (SS b c), I, J, 0, 0)
  refine r_run okX11_fillAnswers 10 (cs := []) (σ' := (24, [some (.ref 0), some (.int (nI k)), some (.ref (8 + k))], [.int (I 0 15), .int 0, .ref (8 + k), .ref 29, .int 0, .ref 76], (SS b c), I, J, 0, 0)) rfl trivial ?_
  refine r_callV okX11_fillAnswers okX7_recentIn [.ref (8 + k), .int 0, .int (I 0 15)] [.int 0, .ref 76] 29 rfl rfl rfl kkX7_recentIn rfl rfl (by decide) rfl rfl rfl (by decide) ⟨Nat.le_refl _, Nat.le_refl _⟩ (Nat.le_of_ble_eq_true rfl) (x_rec γ hk kI_r hF 0 rfl) (fun v1 S1 I1 J1 hp => ?_)
  obtain ⟨rfl, rfl, rfl, rfl⟩ := hp
  show Rj _ _ _ _ _ _ (27, [some (.ref 0), some (.int (nI k)), some (.ref (8 + k))], [.int (nI (sC I 0 (cyB I k) (nv (I 100 13)) (t + 1 - (t - 9)) (t - 9))), .int 0, .ref 76], (SS b c), I, J, 0, 0)
  refine r_run okX11_fillAnswers 10 (cs := [vp_in 0 9]) (σ' := (43, [some (.ref 0), some (.int (nI k)), some (.ref (8 + k))], [.int (I 0 15), .int 1, .ref (8 + k), .ref 29, .int 1, .ref 76], (SS b c), (upI I 76 ((0 : Int32).toNatClampNeg) (nI (sC I 0 (cyB I k) (nv (I 100 13)) (t + 1 - (t - 9)) (t - 9)))), J, 0, 0)) rfl ⟨(show vp_in (nI 0) 9 from vin (by decide) (by decide)), trivial⟩ ?_
  refine r_callV okX11_fillAnswers okX7_recentIn [.ref (8 + k), .int 1, .int (I 0 15)] [.int 1, .ref 76] 29 rfl rfl rfl kkX7_recentIn rfl rfl (by decide) rfl rfl rfl (by decide) ⟨Nat.le_refl _, Nat.le_refl _⟩ (Nat.le_of_ble_eq_true rfl) (x_rec γ hk (kI_t kI_r (kI_up (by decide))) (FA_u hF) 1 rfl) (fun v1 S1 I1 J1 hp => ?_)
  obtain ⟨rfl, rfl, rfl, rfl⟩ := hp
  show Rj _ _ _ _ _ _ (46, [some (.ref 0), some (.int (nI k)), some (.ref (8 + k))], [.int (nI (sC I 1 (cyB I k) (nv (I 100 13)) (t + 1 - (t - 9)) (t - 9))), .int 1, .ref 76], (SS b c), (upI I 76 ((0 : Int32).toNatClampNeg) (nI (sC I 0 (cyB I k) (nv (I 100 13)) (t + 1 - (t - 9)) (t - 9)))), J, 0, 0)
  refine r_run okX11_fillAnswers 10 (cs := [vp_in 1 9]) (σ' := (62, [some (.ref 0), some (.int (nI k)), some (.ref (8 + k))], [.int (I 0 15), .int 2, .ref (8 + k), .ref 29, .int 2, .ref 76], (SS b c), (upI (upI I 76 ((0 : Int32).toNatClampNeg) (nI (sC I 0 (cyB I k) (nv (I 100 13)) (t + 1 - (t - 9)) (t - 9)))) 76 ((1 : Int32).toNatClampNeg) (nI (sC I 1 (cyB I k) (nv (I 100 13)) (t + 1 - (t - 9)) (t - 9)))), J, 0, 0)) rfl ⟨(show vp_in (nI 1) 9 from vin (by decide) (by decide)), trivial⟩ ?_
  refine r_callV okX11_fillAnswers okX7_recentIn [.ref (8 + k), .int 2, .int (I 0 15)] [.int 2, .ref 76] 29 rfl rfl rfl kkX7_recentIn rfl rfl (by decide) rfl rfl rfl (by decide) ⟨Nat.le_refl _, Nat.le_refl _⟩ (Nat.le_of_ble_eq_true rfl) (x_rec γ hk (kI_t (kI_t kI_r (kI_up (by decide))) (kI_up (by decide))) (FA_u (FA_u hF)) 2 rfl) (fun v1 S1 I1 J1 hp => ?_)
  obtain ⟨rfl, rfl, rfl, rfl⟩ := hp
  show Rj _ _ _ _ _ _ (65, [some (.ref 0), some (.int (nI k)), some (.ref (8 + k))], [.int (nI (sC I 2 (cyB I k) (nv (I 100 13)) (t + 1 - (t - 9)) (t - 9))), .int 2, .ref 76], (SS b c), (upI (upI I 76 ((0 : Int32).toNatClampNeg) (nI (sC I 0 (cyB I k) (nv (I 100 13)) (t + 1 - (t - 9)) (t - 9)))) 76 ((1 : Int32).toNatClampNeg) (nI (sC I 1 (cyB I k) (nv (I 100 13)) (t + 1 - (t - 9)) (t - 9)))), J, 0, 0)
  refine r_run okX11_fillAnswers 7 (cs := [vp_in 2 9]) (σ' := (78, [some (.ref 0), some (.int (nI k)), some (.ref (8 + k))], [.ref 29, .int (I 0 15), .ref 37], (SS b c), (upI (upI (upI I 76 ((0 : Int32).toNatClampNeg) (nI (sC I 0 (cyB I k) (nv (I 100 13)) (t + 1 - (t - 9)) (t - 9)))) 76 ((1 : Int32).toNatClampNeg) (nI (sC I 1 (cyB I k) (nv (I 100 13)) (t + 1 - (t - 9)) (t - 9)))) 76 ((2 : Int32).toNatClampNeg) (nI (sC I 2 (cyB I k) (nv (I 100 13)) (t + 1 - (t - 9)) (t - 9)))), J, 0, 0)) rfl ⟨(show vp_in (nI 2) 9 from vin (by decide) (by decide)), trivial⟩ ?_
  refine r_callV okX11_fillAnswers okX7_size [] [.int (I 0 15), .ref 37] 29 rfl rfl rfl kkX7_size rfl rfl (by decide) rfl rfl rfl (by decide) ⟨Nat.le_refl _, Nat.le_refl _⟩ (Nat.le_of_ble_eq_true rfl) (x_size γ (kI_t (kI_t (kI_t kI_r (kI_up (by decide))) (kI_up (by decide))) (kI_up (by decide))) (FA_u (FA_u (FA_u hF)))) (fun v1 S1 I1 J1 hp => ?_)
  obtain ⟨rfl, rfl, rfl, rfl⟩ := hp
  show Rj _ _ _ _ _ _ (81, [some (.ref 0), some (.int (nI k)), some (.ref (8 + k))], [.int (I 100 13), .int (I 0 15), .ref 37], (SS b c), (upI (upI (upI I 76 ((0 : Int32).toNatClampNeg) (nI (sC I 0 (cyB I k) (nv (I 100 13)) (t + 1 - (t - 9)) (t - 9)))) 76 ((1 : Int32).toNatClampNeg) (nI (sC I 1 (cyB I k) (nv (I 100 13)) (t + 1 - (t - 9)) (t - 9)))) 76 ((2 : Int32).toNatClampNeg) (nI (sC I 2 (cyB I k) (nv (I 100 13)) (t + 1 - (t - 9)) (t - 9)))), J, 0, 0)
  refine r_run okX11_fillAnswers 2 (cs := []) (σ' := (85, [some (.ref 0), some (.int (nI k)), some (.ref (8 + k))], [.ref 77, .int (I 100 13), .int (I 0 15), .ref 37], (SS b c), (upI (upI (upI I 76 ((0 : Int32).toNatClampNeg) (nI (sC I 0 (cyB I k) (nv (I 100 13)) (t + 1 - (t - 9)) (t - 9)))) 76 ((1 : Int32).toNatClampNeg) (nI (sC I 1 (cyB I k) (nv (I 100 13)) (t + 1 - (t - 9)) (t - 9)))) 76 ((2 : Int32).toNatClampNeg) (nI (sC I 2 (cyB I k) (nv (I 100 13)) (t + 1 - (t - 9)) (t - 9)))), J, 0, 0)) rfl trivial ?_
  refine r_callV okX11_fillAnswers okX1_locate [.int (I 0 15), .int (I 100 13), .ref 77] [] 37 rfl rfl rfl kkX1_locate rfl rfl (by decide) rfl rfl rfl (by decide) ⟨Nat.le_refl _, Nat.le_refl _⟩ (Nat.le_of_ble_eq_true rfl) (x_loc γ (kI_t (kI_t (kI_t kI_r (kI_up (by decide))) (kI_up (by decide))) (kI_up (by decide))) (FA_u (FA_u (FA_u hF))) rfl) (fun v1 S1 I1 J1 hp => ?_)
  obtain ⟨rfl, rfl, hz, hO2, kz, cz⟩ := hp
  obtain ⟨Iz, eIz⟩ : ∃ z, z = I1 := ⟨_, rfl⟩
  subst eIz
  obtain ⟨Jz, eJz⟩ : ∃ z, z = J1 := ⟨_, rfl⟩
  subst eJz
  have hkz : kI [37, 76] I Iz := kI_t (kI_t (kI_t (kI_t kI_r (kI_up (by decide))) (kI_up (by decide))) (kI_up (by decide))) (kI_m (by decide) hz)
  have hFz : FA Iz M Jz t := FA_k (kI_m (by decide) hz) kz hO2 (FA_u (FA_u (FA_u hF)))
  have hcy : cs Jz (8 + k) (cyB I k) := by rw [← cyB_e (k3_ne hkz (a := 101) (by decide) (by decide))]; exact hFz.2.2.2.2.2.2.2.2 k hk
  show Rj _ _ _ _ _ _ (88, [some (.ref 0), some (.int (nI k)), some (.ref (8 + k))], [], (SS b c), Iz, Jz, 0, 0)
  refine r_run okX11_fillAnswers 6 (cs := []) (σ' := (98, [some (.ref 0), some (.int (nI k)), some (.ref (8 + k))], [.ref (8 + k), .ref 77, .int 3, .ref 76], (SS b c), Iz, Jz, 0, 0)) rfl trivial ?_
  refine r_callV okX11_fillAnswers okX0_sizeWith [.ref (8 + k)] [.int 3, .ref 76] 77 rfl rfl rfl kkX0_sizeWith rfl rfl (by decide) rfl rfl rfl (by decide) ⟨Nat.le_refl _, Nat.le_refl _⟩ (Nat.le_of_ble_eq_true rfl) (a_with γ rfl cz (SSm hk) hcy) (fun v1 S1 I1 J1 hp => ?_)
  obtain ⟨rfl, rfl, rfl, rfl⟩ := hp
  show Rj _ _ _ _ _ _ (101, [some (.ref 0), some (.int (nI k)), some (.ref (8 + k))], [.int (nI (cnt (fun xx => (mayK I (nv (I 100 13)) t) xx && (cyB I k) xx) 96)), .int 3, .ref 76], (SS b c), Iz, Jz, 0, 0)
  refine r_run okX11_fillAnswers 6 (cs := [vp_in 3 9]) (σ' := (109, [some (.ref 0), some (.int (nI k)), some (.ref (8 + k))], [.ref (8 + k), .ref 0, .int 4, .ref 76], (SS b c), (upI Iz 76 ((3 : Int32).toNatClampNeg) (nI (cnt (fun xx => (mayK I (nv (I 100 13)) t) xx && (cyB I k) xx) 96))), Jz, 0, 0)) rfl ⟨(show vp_in (nI 3) 9 from vin (by decide) (by decide)), trivial⟩ ?_
  refine r_callV okX11_fillAnswers okX11_soonIn [.ref (8 + k)] [.int 4, .ref 76] 0 rfl rfl rfl kkX11_soonIn rfl rfl (by decide) rfl rfl rfl (by decide) ⟨Nat.le_refl _, Nat.le_refl _⟩ (Nat.le_of_ble_eq_true rfl) (x_soon γ hk (kI_t hkz (kI_up (by decide))) (FA_u hFz) cz) (fun v1 S1 I1 J1 hp => ?_)
  obtain ⟨rfl, rfl, rfl, ky⟩ := hp
  obtain ⟨Jy, eJy⟩ : ∃ z, z = J1 := ⟨_, rfl⟩
  subst eJy
  have hFy : FA Iz M Jy t := FA_k kI_r (kJ_m (by decide) ky) (OHea_k rfl (fun _ _ _ => rfl) rfl rfl rfl (ky 38 (by decide)) (ky 39 (by decide)) hFz.2.1) hFz
  show Rj _ _ _ _ _ _ (112, [some (.ref 0), some (.int (nI k)), some (.ref (8 + k))], [.int (sooN I (mayK I (nv (I 100 13)) t) k 13), .int 4, .ref 76], (SS b c), (upI Iz 76 ((3 : Int32).toNatClampNeg) (nI (cnt (fun xx => (mayK I (nv (I 100 13)) t) xx && (cyB I k) xx) 96))), Jy, 0, 0)
  refine r_run okX11_fillAnswers 7 (cs := [vp_in 4 9]) (σ' := (123, [some (.ref 0), some (.int (nI k)), some (.ref (8 + k))], [.int (nI k), .ref 1, .int 5, .ref 76], (SS b c), (upI (upI Iz 76 ((3 : Int32).toNatClampNeg) (nI (cnt (fun xx => (mayK I (nv (I 100 13)) t) xx && (cyB I k) xx) 96))) 76 ((4 : Int32).toNatClampNeg) (sooN I (mayK I (nv (I 100 13)) t) k 13)), Jy, 0, 0)) rfl ⟨(show vp_in (nI 4) 9 from vin (by decide) (by decide)), trivial⟩ ?_
  refine r_callV okX11_fillAnswers okX2_peopleOf [.int (nI k)] [.int 5, .ref 76] 1 rfl rfl rfl kkX2_peopleOf rfl rfl (by decide) rfl rfl rfl (by decide) ⟨Nat.le_refl _, Nat.le_refl _⟩ (Nat.le_of_ble_eq_true rfl) (x_ppl γ hk (kI_t (kI_t hkz (kI_up (by decide))) (kI_up (by decide)))) (fun v1 S1 I1 J1 hp => ?_)
  obtain ⟨rfl, rfl, rfl, rfl⟩ := hp
  show Rj _ _ _ _ _ _ (126, [some (.ref 0), some (.int (nI k)), some (.ref (8 + k))], [.int (I 6 k), .int 5, .ref 76], (SS b c), (upI (upI Iz 76 ((3 : Int32).toNatClampNeg) (nI (cnt (fun xx => (mayK I (nv (I 100 13)) t) xx && (cyB I k) xx) 96))) 76 ((4 : Int32).toNatClampNeg) (sooN I (mayK I (nv (I 100 13)) t) k 13)), Jy, 0, 0)
  refine r_run okX11_fillAnswers 9 (cs := [vp_in 5 9]) (σ' := (142, [some (.ref 0), some (.int (nI k)), some (.ref (8 + k))], [.int (Iz 0 15), .int (nI k), .ref 52, .int 6, .ref 76], (SS b c), (upI (upI (upI Iz 76 ((3 : Int32).toNatClampNeg) (nI (cnt (fun xx => (mayK I (nv (I 100 13)) t) xx && (cyB I k) xx) 96))) 76 ((4 : Int32).toNatClampNeg) (sooN I (mayK I (nv (I 100 13)) t) k 13)) 76 ((5 : Int32).toNatClampNeg) (I 6 k)), Jy, 0, 0)) rfl ⟨(show vp_in (nI 5) 9 from vin (by decide) (by decide)), trivial⟩ ?_
  refine r_callV okX11_fillAnswers okX10_left [.int (nI k), .int (Iz 0 15)] [.int 6, .ref 76] 52 rfl rfl rfl kkX10_left rfl rfl (by decide) rfl rfl rfl (by decide) ⟨Nat.le_refl _, Nat.le_refl _⟩ (Nat.le_of_ble_eq_true rfl) (f_left γ hk (FA_u (FA_u (FA_u hFy))) rfl) (fun v1 S1 I1 J1 hp => ?_)
  obtain ⟨rfl, rfl, rfl, rfl⟩ := hp
  show Rj _ _ _ _ _ _ (145, [some (.ref 0), some (.int (nI k)), some (.ref (8 + k))], [.int (lefV M (nI k)), .int 6, .ref 76], (SS b c), (upI (upI (upI Iz 76 ((3 : Int32).toNatClampNeg) (nI (cnt (fun xx => (mayK I (nv (I 100 13)) t) xx && (cyB I k) xx) 96))) 76 ((4 : Int32).toNatClampNeg) (sooN I (mayK I (nv (I 100 13)) t) k 13)) 76 ((5 : Int32).toNatClampNeg) (I 6 k)), Jy, 0, 0)
  refine r_run okX11_fillAnswers 7 (cs := [vp_in 6 9]) (σ' := (157, [some (.ref 0), some (.int (nI k)), some (.ref (8 + k))], [.int (nI k), .ref 52, .int 7, .ref 76], (SS b c), (upI (upI (upI (upI Iz 76 ((3 : Int32).toNatClampNeg) (nI (cnt (fun xx => (mayK I (nv (I 100 13)) t) xx && (cyB I k) xx) 96))) 76 ((4 : Int32).toNatClampNeg) (sooN I (mayK I (nv (I 100 13)) t) k 13)) 76 ((5 : Int32).toNatClampNeg) (I 6 k)) 76 ((6 : Int32).toNatClampNeg) (lefV M (nI k))), Jy, 0, 0)) rfl ⟨(show vp_in (nI 6) 9 from vin (by decide) (by decide)), trivial⟩ ?_
  refine r_callV okX11_fillAnswers okX10_earsOf [.int (nI k)] [.int 7, .ref 76] 52 rfl rfl rfl kkX10_earsOf rfl rfl (by decide) rfl rfl rfl (by decide) ⟨Nat.le_refl _, Nat.le_refl _⟩ (Nat.le_of_ble_eq_true rfl) (f_ears γ hk (FA_u (FA_u (FA_u (FA_u hFy))))) (fun v1 S1 I1 J1 hp => ?_)
  obtain ⟨rfl, rfl, rfl, rfl⟩ := hp
  show Rj _ _ _ _ _ _ (160, [some (.ref 0), some (.int (nI k)), some (.ref (8 + k))], [.int (M 133 k), .int 7, .ref 76], (SS b c), (upI (upI (upI (upI Iz 76 ((3 : Int32).toNatClampNeg) (nI (cnt (fun xx => (mayK I (nv (I 100 13)) t) xx && (cyB I k) xx) 96))) 76 ((4 : Int32).toNatClampNeg) (sooN I (mayK I (nv (I 100 13)) t) k 13)) 76 ((5 : Int32).toNatClampNeg) (I 6 k)) 76 ((6 : Int32).toNatClampNeg) (lefV M (nI k))), Jy, 0, 0)
  refine r_run okX11_fillAnswers 9 (cs := [vp_in 7 9, ¬ (60 : Int32) = 0, vp_in 8 9]) (σ' := (175, [some (.ref 0), some (.int (nI k)), some (.ref (8 + k))], [], (SS b c), (upI (upI (upI (upI (upI (upI Iz 76 ((3 : Int32).toNatClampNeg) (nI (cnt (fun xx => (mayK I (nv (I 100 13)) t) xx && (cyB I k) xx) 96))) 76 ((4 : Int32).toNatClampNeg) (sooN I (mayK I (nv (I 100 13)) t) k 13)) 76 ((5 : Int32).toNatClampNeg) (I 6 k)) 76 ((6 : Int32).toNatClampNeg) (lefV M (nI k))) 76 ((7 : Int32).toNatClampNeg) (M 133 k)) 76 ((8 : Int32).toNatClampNeg) ((Iz 0 15) / 60)), Jy, 0, 0)) rfl ⟨(show vp_in (nI 7) 9 from vin (by decide) (by decide)), (by decide), (show vp_in (nI 8) 9 from vin (by decide) (by decide)), trivial⟩ ?_
  refine r_vret okX11_fillAnswers rfl rfl (Nat.le_refl _) (Nat.le_refl _) ?_
  have h15 : Iz 0 15 = nI t := hFz.2.2.2.2.2.2.1
  have h76 := hz 76 (by decide)
  refine ⟨rfl, rfl, (kI_t (kI_t (kI_t (kI_t (kI_t (kI_t hkz (kI_up (by decide))) (kI_up (by decide))) (kI_up (by decide))) (kI_up (by decide))) (kI_up (by decide))) (kI_up (by decide))), kJ_t kz (kJ_m (by decide) ky), (FA_u (FA_u (FA_u (FA_u (FA_u (FA_u hFy)))))), fun q hq => ?_⟩
  rcases (show q = 0 ∨ q = 1 ∨ q = 2 ∨ q = 3 ∨ q = 4 ∨ q = 5 ∨ q = 6 ∨ q = 7 ∨ q = 8 by omega) with rfl | rfl | rfl | rfl | rfl | rfl | rfl | rfl | rfl <;> simp [upI, aN, h76, h15, show (0 : Int32).toNatClampNeg = 0 from rfl, show (1 : Int32).toNatClampNeg = 1 from rfl, show (2 : Int32).toNatClampNeg = 2 from rfl, show (3 : Int32).toNatClampNeg = 3 from rfl, show (4 : Int32).toNatClampNeg = 4 from rfl, show (5 : Int32).toNatClampNeg = 5 from rfl, show (6 : Int32).toNatClampNeg = 6 from rfl, show (7 : Int32).toNatClampNeg = 7 from rfl, show (8 : Int32).toNatClampNeg = 8 from rfl]
