/-! ===== Heart: locate, locateAfter, firstEmpty ===== -/
theorem mayK_k {I I' : AI} (hb : ∀ a, 105 ≤ a → a ≤ 115 → I' a = I a) (h6 : I' 100 6 = I 100 6) (h7 : I' 100 7 = I 100 7) (h13 : I' 100 13 = I 100 13) (kn : Nat) : ∀ t x, mayK I' kn t x = mayK I kn t x
  | 0, x => by unfold mayK; rw [h7, h13, alN_k hb]
  | t + 1, x => by unfold mayK; rw [h6, h7, h13, alN_k hb, from_cg (fun y _ => mayK_k hb h6 h7 h13 kn t y)]
theorem alN_eq {I : AI} {kn n : Nat} {k : Int32} (hs : ∀ i, i < n → (i < kn ↔ I 115 i ≤ k)) (t x : Nat) : alN I kn t n x = allsN I k t n x := by
  unfold alN allsN
  rw [Bool.eq_iff_iff]
  simp only [List.all_eq_true, List.mem_range]
  have e : ∀ i, i < n → (!(decide (I 112 i = nI t) && decide (i < kn)) || allB I i x) = (!relB I k t i || allB I i x) := fun i hi => by
    unfold relB
    have : decide (i < kn) = decide (I 115 i ≤ k) := by
      by_cases h : i < kn
      · rw [decide_eq_true h, decide_eq_true ((hs i hi).mp h)]
      · rw [decide_eq_false h, decide_eq_false (fun z => h ((hs i hi).mpr z))]
    rw [this]
  constructor
  · intro h i hi; rw [← e i hi]; exact h i hi
  · intro h i hi; rw [e i hi]; exact h i hi
theorem mayK_eq {I : AI} {kn : Nat} {k : Int32} (hs : ∀ i, i < nv (I 100 13) → (i < kn ↔ I 115 i ≤ k)) : ∀ t x, mayK I kn t x = mayB I k t x
  | 0, x => by unfold mayK mayB; rw [alN_eq hs]
  | t + 1, x => by unfold mayK mayB; rw [alN_eq hs, from_cg (fun y _ => mayK_eq hs t y)]
theorem go_cg {m : Int32} {f g : Nat → Bool} (h : ∀ y, f y = g y) (n x : Nat) : goTo m f n x = goTo m g n x := by rw [show f = g from funext h]
def aftK (I : AI) (kn l : Nat) : Nat → Nat → Bool
  | 0, x => mayK I kn l x
  | j + 1, x => mayK I kn (l - (j + 1)) x && goTo (I 100 6) (aftK I kn l j) 9 x
theorem aftK_eq {I : AI} {kn : Nat} {k : Int32} (hs : ∀ i, i < nv (I 100 13) → (i < kn ↔ I 115 i ≤ k)) (l : Nat) : ∀ j x, aftK I kn l j x = aftB I k l j x
  | 0, x => mayK_eq hs l x
  | j + 1, x => by unfold aftK aftB; rw [mayK_eq hs, go_cg (aftK_eq hs l j)]
theorem Rw_j {I : AI} {J J' : AJ} {kn km : Nat} (h1 : J' 38 = J 38) (h2 : J' 39 = J 39) (h : Rw I J kn km) : Rw I J' kn km := by
  unfold Rw; rw [h1, h2]; exact h
theorem OHea_re {I Iz : AI} {J : AJ} {kn km : Nat} (hz : kI [37] I Iz) (z6 : Iz 37 6 = I 37 6) (z7 : Iz 37 7 = I 37 7) (h6 : I 37 6 = I 100 6) (h7 : I 37 7 = I 100 7) (hkn : kn ≤ nv (I 100 13)) (hkm : km ≤ 720) (z8 : Iz 37 8 = nI kn) (z9 : Iz 37 9 = nI km) (hR : Rw I J kn km) : OHea Iz J := by
  have g : ∀ a, ¬ a = 37 → Iz a = I a := fun a q => hz a (fun z => q (List.mem_singleton.mp z))
  have e := g 100 (by omega)
  refine ⟨by rw [e, z6]; exact h6, by rw [e, z7]; exact h7, kn, km, by rw [e]; exact hkn, hkm, z8, z9, fun s hs => ?_⟩
  obtain ⟨r1, r2, r3⟩ := hR s hs
  exact ⟨r1, r2, fun x hx => by rw [r3 x hx, mayK_k (fun a q1 q2 => g a (by omega)) (by rw [e]) (by rw [e]) (by rw [e])]⟩
def LoP (I : AI) (J : AJ) (f : Nat → Bool) (I' : AI) (J' : AJ) : Prop := kI [37] I I' ∧ OHea I' J' ∧ kJ [38, 39, 40, 41, 77] J J' ∧ cs J' 77 f
def mbk (m : Int32) : Nat → Int32
  | 0 => 0
  | n + 1 => mbk m n ||| (((m >>> (nI n &&& 31)) &&& 1) <<< ((8 - nI n) &&& 31))
def mbv (M : Nat) : Nat := nv (mbk (nI M) 9)
theorem mb_dec : ∀ M, M < 512 → mbk (nI M) 9 = nI (mbv M) ∧ mbv M < 512 ∧ ∀ d, d < 9 → mvOn (nI (mbv M)) d = mvOn (nI M) (8 - d) := by decide +kernel
theorem back_go {M : Nat} (hM : M < 512) {f : Nat → Bool} {x : Nat} (hx : x < 96) : fromN (nI (mbv M)) f 96 x = goTo (nI M) f 9 x := by
  obtain ⟨-, -, hd⟩ := mb_dec M hM
  rw [from_st hx]
  unfold stF goTo
  show List.any [0, 1, 2, 3, 4, 5, 6, 7, 8] _ = List.any [0, 1, 2, 3, 4, 5, 6, 7, 8] _
  simp only [List.any_cons, List.any_nil, Bool.or_false]
  rw [hd 0 (by omega), hd 1 (by omega), hd 2 (by omega), hd 3 (by omega), hd 4 (by omega), hd 5 (by omega), hd 6 (by omega), hd 7 (by omega), hd 8 (by omega)]
  simp only [Nat.sub_zero, Nat.reduceSub, Bool.and_assoc, Bool.or_assoc]
  simp only [Bool.or_assoc, Bool.or_comm, Bool.or_left_comm]
theorem cnt_z {f : Nat → Bool} : ∀ {n : Nat}, cnt f n = 0 ↔ ∀ i, i < n → f i = false
  | 0 => ⟨fun _ i hi => absurd hi (Nat.not_lt_zero i), fun _ => rfl⟩
  | n + 1 => by
    constructor
    · intro h i hi
      have h : cnt f n + (if f n then 1 else 0) = 0 := h
      have h1 : cnt f n = 0 := by omega
      by_cases e : i = n
      · rw [e]
        cases q : f n with
        | false => rfl
        | true => rw [q, if_pos rfl] at h; omega
      · exact cnt_z.mp h1 i (by omega)
    · intro h
      show cnt f n + (if f n then 1 else 0) = 0
      rw [cnt_z.mpr (fun i hi => h i (by omega)), h n (by omega)]; rfl
theorem zero_of {x : Int64} (h : ∀ i, i < 64 → bt6 x i = false) : x = 0 := by
  apply Int64.toBitVec_inj.mp
  apply BitVec.eq_of_getLsbD_eq
  intro i hi
  show bt6 x i = bt6 0 i
  rw [h i hi, q_0]
theorem hs_z {x y : Int64} (hx : w48 x) (hy : w48 y) : (x = 0 ∧ y = 0) ↔ cnt (hs x y) 96 = 0 := by
  rw [cnt_z]
  constructor
  · rintro ⟨rfl, rfl⟩ i _; exact hs_0 i
  · intro h
    refine ⟨zero_of fun i _ => ?_, zero_of fun i _ => ?_⟩
    · by_cases q : i < 48
      · have := h i (by omega); unfold hs at this; rw [if_pos q] at this; exact this
      · exact hx i (by omega)
    · by_cases q : i < 48
      · have := h (48 + i) (by omega); unfold hs at this; rw [if_neg (by omega), Nat.add_sub_cancel_left] at this; exact this
      · exact hy i (by omega)
def emN (I : AI) (kn : Nat) : Nat → Nat → Int32
  | 0, _ => -1
  | j + 1, s => if cnt (mayK I kn s) 96 = 0 then nI s else emN I kn j (s + 1)
theorem emN_eq {I : AI} {kn : Nat} {k : Int32} (hs : ∀ i, i < nv (I 100 13) → (i < kn ↔ I 115 i ≤ k)) : ∀ j s, emN I kn j s = quaN I k j s
  | 0, _ => rfl
  | j + 1, s => by unfold emN quaN; rw [show mayK I kn s = mayB I k s from funext (mayK_eq hs s), emN_eq hs j]
theorem o_locate (γ : GE) {b c : Bool} {I : AI} {J : AJ} {t kn : Nat} (ht : t < 720) (hkn : kn < 301 ∧ kn ≤ nv (I 100 13)) (hB : HBs I J) (hH : OHea I J) : Ct γ mX1_locate 4 0 0 [.ref 37, .int (nI t), .int (nI kn), .ref 77] (SS b c) I J (fun rt S' I' J' => none = rt ∧ (SS b c) = S' ∧ LoP I J (mayK I kn t) I' J') := by
  have ct : (nI t).toNatClampNeg = t := nI_clamp (by omega)
  refine ct_of okX1_locate (L := [some (.ref 37), some (.int (nI t)), some (.int (nI kn)), some (.ref 77)]) (Nat.le_of_ble_eq_true rfl) rfl ?_
  refine r_run okX1_locate 3 (cs := []) (σ' := (3, [some (.ref 37), some (.int (nI t)), some (.int (nI kn)), some (.ref 77)], [.int (nI kn), .int (nI t), .ref 37], (SS b c), I, J, 0, 0)) rfl trivial ?_
  refine r_callV okX1_locate okX1_reach [.int (nI t), .int (nI kn)] [] 37 rfl rfl rfl kkX1_reach rfl rfl (by decide) rfl rfl rfl (by decide) ⟨Nat.le_refl _, Nat.le_refl _⟩ (Nat.le_of_ble_eq_true rfl) (o_reach γ (t := t) (kn := kn) ht hkn.1 hB hH) (fun v1 S1 I1 J1 hp => ?_)
  obtain ⟨rfl, rfl, hz, z6, z7, z8, ⟨km, hkm, htk, z9, hRw⟩, kz⟩ := hp
  obtain ⟨Iz, eIz⟩ : ∃ z, z = I1 := ⟨_, rfl⟩
  subst eIz
  obtain ⟨Jz, eJz⟩ : ∃ z, z = J1 := ⟨_, rfl⟩
  subst eJz
  show Rj _ _ _ _ _ _ (6, [some (.ref 37), some (.int (nI t)), some (.int (nI kn)), some (.ref 77)], [], (SS b c), Iz, Jz, 0, 0)
  refine r_run okX1_locate 9 (cs := [vp_in (nI t) 720, vp_in (nI t) 720]) (σ' := (19, [some (.ref 37), some (.int (nI t)), some (.int (nI kn)), some (.ref 77)], [.long (Jz 39 ((nI t).toNatClampNeg)), .long (Jz 38 ((nI t).toNatClampNeg)), .ref 77], (SS b c), Iz, Jz, 0, 0)) rfl ⟨(vin ht (by decide)), (vin ht (by decide)), trivial⟩ ?_
  simp only [ct]
  show Rj _ _ _ _ _ _ (19, [some (.ref 37), some (.int (nI t)), some (.int (nI kn)), some (.ref 77)], [.long (Jz 39 t), .long (Jz 38 t), .ref 77], (SS b c), Iz, Jz, 0, 0)
  refine r_callV okX1_locate okX0_load [.long (Jz 38 t), .long (Jz 39 t)] [] 77 rfl rfl rfl kkX0_load rfl rfl (by decide) rfl rfl rfl (by decide) ⟨Nat.le_refl _, Nat.le_refl _⟩ (Nat.le_of_ble_eq_true rfl) (a_load γ rfl (f := mayK I kn t) (hRw t (by omega)).1 (hRw t (by omega)).2.1 (hRw t (by omega)).2.2) (fun v1 S1 I1 J1 hp => ?_)
  obtain ⟨rfl, rfl, rfl, J1, rfl, k1, c1⟩ := hp
  show Rj _ _ _ _ _ _ (22, [some (.ref 37), some (.int (nI t)), some (.int (nI kn)), some (.ref 77)], [], (SS b c), Iz, J1, 0, 0)
  refine r_vret okX1_locate rfl rfl (Nat.le_refl _) (Nat.le_refl _) ?_
  exact ⟨rfl, rfl, hz, OHea_re hz z6 z7 hH.1 hH.2.1 hkn.2 hkm z8 z9 (Rw_j (k1 38 (by decide)) (k1 39 (by decide)) hRw), kJ_t (kJ_m (by decide) kz) (kJ_m (by decide) k1), c1⟩
theorem lp_mb (γ : GE) {b c : Bool} {I : AI} {J : AJ} {M : Nat} (e6 : I 37 6 = nI M) : ∀ (j q : Nat), q + j = 9 → Rj γ mX1_movesBack 0 0 0 (rI (mbk (nI M) 9) (SS b c) I J) (4, [some (.ref 37), some (.int (mbk (nI M) q)), some (.int (nI q))], [], (SS b c), I, J, 0, 0) := by
  intro j
  induction j with
  | zero =>
    intro q  hj
    refine r_run okX1_movesBack 2 (cs := []) (σ' := (7, [some (.ref 37), some (.int (mbk (nI M) q)), some (.int (nI q))], [.int 9, .int (nI q)], (SS b c), I, J, 0, 0)) rfl trivial ?_
    refine r_icmp okX1_movesBack rfl (fun (h7 : (9 : Int32) ≤ (nI q)) => ?_) (fun (h7 : ¬ (9 : Int32) ≤ (nI q)) => ?_)
    · refine r_run okX1_movesBack 1 (cs := []) (σ' := (33, [some (.ref 37), some (.int (mbk (nI M) q)), some (.int (nI q))], [.int (mbk (nI M) q)], (SS b c), I, J, 0, 0)) rfl trivial ?_
      refine r_iret okX1_movesBack rfl rfl rfl (Nat.le_refl _) (Nat.le_refl _) ?_
      have e : q = 9 := by omega
      subst e
      exact ⟨rfl, rfl, rfl, rfl⟩
    · exact absurd (nI_le (a := 9) (b := q) (by omega) (by omega)) h7
  | succ j ih =>
    intro q  hj
    refine r_run okX1_movesBack 2 (cs := []) (σ' := (7, [some (.ref 37), some (.int (mbk (nI M) q)), some (.int (nI q))], [.int 9, .int (nI q)], (SS b c), I, J, 0, 0)) rfl trivial ?_
    refine r_icmp okX1_movesBack rfl (fun (h7 : (9 : Int32) ≤ (nI q)) => ?_) (fun (h7 : ¬ (9 : Int32) ≤ (nI q)) => ?_)
    · exact absurd h7 (nI_ge (a := q) (b := 9) (by omega) (by decide))
    · refine r_run okX1_movesBack 15 (cs := []) (σ' := (4, [some (.ref 37), some (.int ((mbk (nI M) q) ||| ((((I 37 6) >>> ((nI q) &&& 31)) &&& 1) <<< ((8 - (nI q)) &&& 31)))), some (.int ((nI q) + 1))], [], (SS b c), I, J, 0, 0)) rfl trivial ?_
      simp only [e6]
      show Rj _ _ _ _ _ _ (4, [some (.ref 37), some (.int ((mbk (nI M) q) ||| ((((nI M) >>> ((nI q) &&& 31)) &&& 1) <<< ((8 - (nI q)) &&& 31)))), some (.int ((nI q) + 1))], [], (SS b c), I, J, 0, 0)
      rw [← nI_succ]
      exact ih (q + 1) (by omega)
theorem o_movesBack (γ : GE) {b c : Bool} {I : AI} {J : AJ} {M : Nat} (hM : M < 512) (e6 : I 37 6 = nI M) : Ct γ mX1_movesBack 0 0 0 [.ref 37] (SS b c) I J (rI (nI (mbv M)) (SS b c) I J) := by
  refine ct_of okX1_movesBack (L := [some (.ref 37), none, none]) (Nat.le_of_ble_eq_true rfl) rfl ?_
  refine r_run okX1_movesBack 4 (cs := []) (σ' := (4, [some (.ref 37), some (.int 0), some (.int 0)], [], (SS b c), I, J, 0, 0)) rfl trivial ?_
  rw [← (mb_dec M hM).1]
  exact lp_mb γ e6 9 0 (by omega)
theorem lp_em (γ : GE) {b c : Bool} {I : AI} {J : AJ} {Iz : AI} {Jz : AJ} {k kn km : Nat} (hk : k < 720) (hz : kI [37] I Iz) (hO : OHea Iz Jz) (kz : kJ [38, 39, 40, 41] J Jz) (hkm : k < km) (hRw : Rw I Jz kn km) : ∀ (j q : Nat), (q + j = k + 1 ∨ (j = 0 ∧ k < q ∧ q < 720)) → Rj γ mX1_firstEmpty 4 0 0 (fun rt S' I' J' => some (.int (emN I kn j q)) = rt ∧ (SS b c) = S' ∧ kI [37] I I' ∧ OHea I' J' ∧ kJ [38, 39, 40, 41] J J') (11, [some (.ref 37), some (.int (nI k)), some (.int (nI kn)), some (.int (nI q))], [], (SS b c), Iz, Jz, 0, 0) := by
  intro j
  induction j with
  | zero =>
    intro q hj
    have hj : k < q ∧ q < 721 := by omega
    refine r_run okX1_firstEmpty 2 (cs := []) (σ' := (13, [some (.ref 37), some (.int (nI k)), some (.int (nI kn)), some (.int (nI q))], [.int (nI k), .int (nI q)], (SS b c), Iz, Jz, 0, 0)) rfl trivial ?_
    refine r_icmp okX1_firstEmpty rfl (fun (h13 : (nI k) < (nI q)) => ?_) (fun (h13 : ¬ (nI k) < (nI q)) => ?_)
    · refine r_run okX1_firstEmpty 1 (cs := []) (σ' := (47, [some (.ref 37), some (.int (nI k)), some (.int (nI kn)), some (.int (nI q))], [.int (-1)], (SS b c), Iz, Jz, 0, 0)) rfl trivial ?_
      refine r_iret okX1_firstEmpty rfl rfl rfl (Nat.le_refl _) (Nat.le_refl _) ?_
      exact ⟨rfl, rfl, hz, hO, kz⟩
    · exact absurd (nI_lt (by omega) (by omega)) h13
  | succ j ih =>
    intro q hj
    have hj : q + (j + 1) = k + 1 := by omega
    have cq : (nI q).toNatClampNeg = q := nI_clamp (by omega)
    obtain ⟨r1, r2, r3⟩ := hRw q (by omega)
    refine r_run okX1_firstEmpty 2 (cs := []) (σ' := (13, [some (.ref 37), some (.int (nI k)), some (.int (nI kn)), some (.int (nI q))], [.int (nI k), .int (nI q)], (SS b c), Iz, Jz, 0, 0)) rfl trivial ?_
    refine r_icmp okX1_firstEmpty rfl (fun (h13 : (nI k) < (nI q)) => ?_) (fun (h13 : ¬ (nI k) < (nI q)) => ?_)
    · exact absurd h13 (nI_nlt (by omega) (by omega))
    · refine r_run okX1_firstEmpty 6 (cs := [vp_in (nI q) 720]) (σ' := (24, [some (.ref 37), some (.int (nI k)), some (.int (nI kn)), some (.int (nI q))], [.int (lg_cmp (Jz 38 ((nI q).toNatClampNeg)) 0)], (SS b c), Iz, Jz, 0, 0)) rfl ⟨(vin (by omega) (by decide)), trivial⟩ ?_
      simp only [cq]
      show Rj _ _ _ _ _ _ (24, [some (.ref 37), some (.int (nI k)), some (.int (nI kn)), some (.int (nI q))], [.int (lg_cmp (Jz 38 q) 0)], (SS b c), Iz, Jz, 0, 0)
      refine r_ifc okX1_firstEmpty rfl (fun (h24 : ¬ (lg_cmp (Jz 38 q) 0) = (0 : Int32)) => ?_) (fun h240 => ?_)
      · refine r_run okX1_firstEmpty 2 (cs := []) (σ' := (11, [some (.ref 37), some (.int (nI k)), some (.int (nI kn)), some (.int ((nI q) + 1))], [], (SS b c), Iz, Jz, 0, 0)) rfl trivial ?_
        rw [← nI_succ]
        have h := ih (q + 1) (by omega)
        rw [emN, if_neg (fun e => absurd ((hs_z r1 r2).mpr (by rw [cnt_cg r3]; exact e)) (fun z => h24 ((lg_cmp_eq _ _).mpr z.1)))]
        exact h
      · have h24 : (lg_cmp (Jz 38 q) 0) = (0 : Int32) := Classical.not_not.mp h240
        refine r_run okX1_firstEmpty 6 (cs := [vp_in (nI q) 720]) (σ' := (35, [some (.ref 37), some (.int (nI k)), some (.int (nI kn)), some (.int (nI q))], [.int (lg_cmp (Jz 39 ((nI q).toNatClampNeg)) 0)], (SS b c), Iz, Jz, 0, 0)) rfl ⟨(vin (by omega) (by decide)), trivial⟩ ?_
        simp only [cq]
        show Rj _ _ _ _ _ _ (35, [some (.ref 37), some (.int (nI k)), some (.int (nI kn)), some (.int (nI q))], [.int (lg_cmp (Jz 39 q) 0)], (SS b c), Iz, Jz, 0, 0)
        refine r_ifc okX1_firstEmpty rfl (fun (h35 : ¬ (lg_cmp (Jz 39 q) 0) = (0 : Int32)) => ?_) (fun h350 => ?_)
        · refine r_run okX1_firstEmpty 2 (cs := []) (σ' := (11, [some (.ref 37), some (.int (nI k)), some (.int (nI kn)), some (.int ((nI q) + 1))], [], (SS b c), Iz, Jz, 0, 0)) rfl trivial ?_
          rw [← nI_succ]
          have h := ih (q + 1) (by omega)
          rw [emN, if_neg (fun e => absurd ((hs_z r1 r2).mpr (by rw [cnt_cg r3]; exact e)) (fun z => h35 ((lg_cmp_eq _ _).mpr z.2)))]
          exact h
        · have h35 : (lg_cmp (Jz 39 q) 0) = (0 : Int32) := Classical.not_not.mp h350
          refine r_run okX1_firstEmpty 1 (cs := []) (σ' := (39, [some (.ref 37), some (.int (nI k)), some (.int (nI kn)), some (.int (nI q))], [.int (nI q)], (SS b c), Iz, Jz, 0, 0)) rfl trivial ?_
          refine r_iret okX1_firstEmpty rfl rfl rfl (Nat.le_refl _) (Nat.le_refl _) ?_
          rw [emN, if_pos (by rw [← cnt_cg r3]; exact (hs_z r1 r2).mp ⟨(lg_cmp_eq _ _).mp h24, (lg_cmp_eq _ _).mp h35⟩)]
          exact ⟨rfl, rfl, hz, hO, kz⟩
theorem o_firstEmpty (γ : GE) {b c : Bool} {I : AI} {J : AJ} {t kn : Nat} (ht : t < 720) (hkn : kn < 301 ∧ kn ≤ nv (I 100 13)) (hB : HBs I J) (hH : OHea I J) {st : Nat} (hst : st < 720) (est : I 100 7 = nI st) : Ct γ mX1_firstEmpty 4 0 0 [.ref 37, .int (nI t), .int (nI kn)] (SS b c) I J (fun rt S' I' J' => some (.int (emN I kn (t + 1 - st) st)) = rt ∧ (SS b c) = S' ∧ kI [37] I I' ∧ OHea I' J' ∧ kJ [38, 39, 40, 41] J J') := by
  refine ct_of okX1_firstEmpty (L := [some (.ref 37), some (.int (nI t)), some (.int (nI kn)), none]) (Nat.le_of_ble_eq_true rfl) rfl ?_
  refine r_run okX1_firstEmpty 3 (cs := []) (σ' := (3, [some (.ref 37), some (.int (nI t)), some (.int (nI kn)), none], [.int (nI kn), .int (nI t), .ref 37], (SS b c), I, J, 0, 0)) rfl trivial ?_
  refine r_callV okX1_firstEmpty okX1_reach [.int (nI t), .int (nI kn)] [] 37 rfl rfl rfl kkX1_reach rfl rfl (by decide) rfl rfl rfl (by decide) ⟨Nat.le_refl _, Nat.le_refl _⟩ (Nat.le_of_ble_eq_true rfl) (o_reach γ (t := t) (kn := kn) ht hkn.1 hB hH) (fun v1 S1 I1 J1 hp => ?_)
  obtain ⟨rfl, rfl, hz, z6, z7, z8, ⟨km, hkm, htk, z9, hRw⟩, kz⟩ := hp
  obtain ⟨Iz, eIz⟩ : ∃ z, z = I1 := ⟨_, rfl⟩
  subst eIz
  obtain ⟨Jz, eJz⟩ : ∃ z, z = J1 := ⟨_, rfl⟩
  subst eJz
  have e7 : Iz 37 7 = nI st := (z7.trans hH.2.1).trans est
  show Rj _ _ _ _ _ _ (6, [some (.ref 37), some (.int (nI t)), some (.int (nI kn)), none], [], (SS b c), Iz, Jz, 0, 0)
  refine r_run okX1_firstEmpty 3 (cs := []) (σ' := (11, [some (.ref 37), some (.int (nI t)), some (.int (nI kn)), some (.int (Iz 37 7))], [], (SS b c), Iz, Jz, 0, 0)) rfl trivial ?_
  simp only [e7]
  show Rj _ _ _ _ _ _ (11, [some (.ref 37), some (.int (nI t)), some (.int (nI kn)), some (.int (nI st))], [], (SS b c), Iz, Jz, 0, 0)
  exact lp_em γ ht hz (OHea_re hz z6 z7 hH.1 hH.2.1 hkn.2 hkm z8 z9 hRw) kz htk hRw (t + 1 - st) st (by omega)
theorem o_after1 (γ : GE) {b c : Bool} {I : AI} {J : AJ} {t kn : Nat} (ht : t < 720) (hkn : kn < 301 ∧ kn ≤ nv (I 100 13)) (hB : HBs I J) (hH : OHea I J) (hkn2 : kn ≤ nv (I 100 13)) (hnl : ¬ nI t < lsmN I kn) : Ct γ mX1_locateAfter 4 0 0 [.ref 37, .int (nI t), .int (nI kn), .ref 77] (SS b c) I J (fun rt S' I' J' => none = rt ∧ (SS b c) = S' ∧ LoP I J (mayK I kn t) I' J') := by
  have ct : (nI t).toNatClampNeg = t := nI_clamp (by omega)
  have hmx : (if (nI t) < (lsmN I kn) then (lsmN I kn) else (nI t)) = nI t := if_neg hnl
  refine ct_of okX1_locateAfter (L := [some (.ref 37), some (.int (nI t)), some (.int (nI kn)), some (.ref 77), none, none, none]) (Nat.le_of_ble_eq_true rfl) rfl ?_
  refine r_run okX1_locateAfter 3 (cs := []) (σ' := (5, [some (.ref 37), some (.int (nI t)), some (.int (nI kn)), some (.ref 77), none, none, none], [.int (nI kn), .ref 29], (SS b c), I, J, 0, 0)) rfl trivial ?_
  refine r_callV okX1_locateAfter okX7_lastSureMinute [.int (nI kn)] [] 29 rfl rfl rfl kkX7_lastSureMinute rfl rfl (by decide) rfl rfl rfl (by decide) ⟨Nat.le_refl _, Nat.le_refl _⟩ (Nat.le_of_ble_eq_true rfl) (o_lastSure γ hB.1 hB.2.1 hkn2) (fun v1 S1 I1 J1 hp => ?_)
  obtain ⟨rfl, rfl, rfl, rfl⟩ := hp
  show Rj _ _ _ _ _ _ (8, [some (.ref 37), some (.int (nI t)), some (.int (nI kn)), some (.ref 77), none, none, none], [.int (lsmN I kn)], (SS b c), I, J, 0, 0)
  refine r_run okX1_locateAfter 4 (cs := []) (σ' := (14, [some (.ref 37), some (.int (nI t)), some (.int (nI kn)), some (.ref 77), some (.int (lsmN I kn)), none, none], [.int (lsmN I kn), .int (nI t), .ref 37], (SS b c), I, J, 0, 0)) rfl trivial ?_
  refine r_mmax okX1_locateAfter rfl rfl ⟨Nat.le_refl _, Nat.le_refl _⟩ (Nat.le_of_ble_eq_true rfl) ?_
  show Rj _ _ _ _ _ _ (17, [some (.ref 37), some (.int (nI t)), some (.int (nI kn)), some (.ref 77), some (.int (lsmN I kn)), none, none], [.int (if (nI t) < (lsmN I kn) then (lsmN I kn) else (nI t)), .ref 37], (SS b c), I, J, 0, 0)
  refine r_run okX1_locateAfter 1 (cs := []) (σ' := (18, [some (.ref 37), some (.int (nI t)), some (.int (nI kn)), some (.ref 77), some (.int (lsmN I kn)), none, none], [.int (nI kn), .int (if (nI t) < (lsmN I kn) then (lsmN I kn) else (nI t)), .ref 37], (SS b c), I, J, 0, 0)) rfl trivial ?_
  simp only [hmx]
  show Rj _ _ _ _ _ _ (18, [some (.ref 37), some (.int (nI t)), some (.int (nI kn)), some (.ref 77), some (.int (lsmN I kn)), none, none], [.int (nI kn), .int (nI t), .ref 37], (SS b c), I, J, 0, 0)
  refine r_callV okX1_locateAfter okX1_reach [.int (nI t), .int (nI kn)] [] 37 rfl rfl rfl kkX1_reach rfl rfl (by decide) rfl rfl rfl (by decide) ⟨Nat.le_refl _, Nat.le_refl _⟩ (Nat.le_of_ble_eq_true rfl) (o_reach γ (t := t) (kn := kn) ht hkn.1 hB hH) (fun v1 S1 I1 J1 hp => ?_)
  obtain ⟨rfl, rfl, hz, z6, z7, z8, ⟨km, hkm, htk, z9, hRw⟩, kz⟩ := hp
  obtain ⟨Iz, eIz⟩ : ∃ z, z = I1 := ⟨_, rfl⟩
  subst eIz
  obtain ⟨Jz, eJz⟩ : ∃ z, z = J1 := ⟨_, rfl⟩
  subst eJz
  show Rj _ _ _ _ _ _ (21, [some (.ref 37), some (.int (nI t)), some (.int (nI kn)), some (.ref 77), some (.int (lsmN I kn)), none, none], [], (SS b c), Iz, Jz, 0, 0)
  refine r_run okX1_locateAfter 2 (cs := []) (σ' := (24, [some (.ref 37), some (.int (nI t)), some (.int (nI kn)), some (.ref 77), some (.int (lsmN I kn)), none, none], [.int (lsmN I kn), .int (nI t)], (SS b c), Iz, Jz, 0, 0)) rfl trivial ?_
  refine r_icmp okX1_locateAfter rfl (fun (h24 : (nI t) < (lsmN I kn)) => ?_) (fun (h24 : ¬ (nI t) < (lsmN I kn)) => ?_)
  · exact absurd h24 hnl
  · refine r_run okX1_locateAfter 9 (cs := [vp_in (nI t) 720, vp_in (nI t) 720]) (σ' := (40, [some (.ref 37), some (.int (nI t)), some (.int (nI kn)), some (.ref 77), some (.int (lsmN I kn)), none, none], [.long (Jz 39 ((nI t).toNatClampNeg)), .long (Jz 38 ((nI t).toNatClampNeg)), .ref 77], (SS b c), Iz, Jz, 0, 0)) rfl ⟨(vin ht (by decide)), (vin ht (by decide)), trivial⟩ ?_
    simp only [ct]
    show Rj _ _ _ _ _ _ (40, [some (.ref 37), some (.int (nI t)), some (.int (nI kn)), some (.ref 77), some (.int (lsmN I kn)), none, none], [.long (Jz 39 t), .long (Jz 38 t), .ref 77], (SS b c), Iz, Jz, 0, 0)
    refine r_callV okX1_locateAfter okX0_load [.long (Jz 38 t), .long (Jz 39 t)] [] 77 rfl rfl rfl kkX0_load rfl rfl (by decide) rfl rfl rfl (by decide) ⟨Nat.le_refl _, Nat.le_refl _⟩ (Nat.le_of_ble_eq_true rfl) (a_load γ rfl (f := mayK I kn t) (hRw t (by omega)).1 (hRw t (by omega)).2.1 (hRw t (by omega)).2.2) (fun v1 S1 I1 J1 hp => ?_)
    obtain ⟨rfl, rfl, rfl, J1, rfl, k1, c1⟩ := hp
    show Rj _ _ _ _ _ _ (43, [some (.ref 37), some (.int (nI t)), some (.int (nI kn)), some (.ref 77), some (.int (lsmN I kn)), none, none], [], (SS b c), Iz, J1, 0, 0)
    refine r_vret okX1_locateAfter rfl rfl (Nat.le_refl _) (Nat.le_refl _) ?_
    exact ⟨rfl, rfl, hz, OHea_re hz z6 z7 hH.1 hH.2.1 hkn.2 hkm z8 z9 (Rw_j (k1 38 (by decide)) (k1 39 (by decide)) hRw), kJ_t (kJ_m (by decide) kz) (kJ_m (by decide) k1), c1⟩
theorem lp_aft (γ : GE) {b c : Bool} {I : AI} {J : AJ} {Iz : AI} {Jz : AJ} {t kn km l M : Nat} (hl : l < 720) (hM : M < 512) (eM : I 100 6 = nI M) (htl : t < l) (hz : kI [37] I Iz) (kz : kJ [38, 39, 40, 41] J Jz) (hkm : l < km) (hRw : Rw I Jz kn km) (hO : ∀ J2 : AJ, J2 38 = Jz 38 → J2 39 = Jz 39 → OHea Iz J2) : ∀ (j : Nat) (J0 : AJ), t + j ≤ l → kJ [41, 77] Jz J0 → cs J0 77 (aftK I kn l (l - (t + j))) → Rj γ mX1_locateAfter 4 0 0 (fun rt S' I' J' => none = rt ∧ (SS b c) = S' ∧ LoP I J (aftK I kn l (l - t)) I' J') (74, [some (.ref 37), some (.int (nI t)), some (.int (nI kn)), some (.ref 77), some (.int (nI l)), some (.int (nI (mbv M))), some (.int ((nI (t + j)) - 1))], [], (SS b c), Iz, J0, 0, 0) := by
  intro j
  induction j with
  | zero =>
    intro J0 hj hk hc
    refine r_run okX1_locateAfter 2 (cs := []) (σ' := (77, [some (.ref 37), some (.int (nI t)), some (.int (nI kn)), some (.ref 77), some (.int (nI l)), some (.int (nI (mbv M))), some (.int ((nI (t + 0)) - 1))], [.int (nI t), .int ((nI (t + 0)) - 1)], (SS b c), Iz, J0, 0, 0)) rfl trivial ?_
    refine r_icmp okX1_locateAfter rfl (fun (h77 : ((nI (t + 0)) - 1) < (nI t)) => ?_) (fun (h77 : ¬ ((nI (t + 0)) - 1) < (nI t)) => ?_)
    · refine r_vret okX1_locateAfter rfl rfl (Nat.le_refl _) (Nat.le_refl _) ?_
      exact ⟨rfl, rfl, hz, hO J0 (hk 38 (by decide)) (hk 39 (by decide)), kJ_t (kJ_m (by decide) kz) (kJ_m (by decide) hk), hc⟩
    · exact absurd (nI_ltp (by omega)) h77
  | succ j ih =>
    intro J0 hj hk hc
    have epr : (nI (t + (j + 1))) - 1 = nI (t + j) := nI_pred (t + j)
    have cq : (nI (t + j)).toNatClampNeg = t + j := nI_clamp (by omega)
    refine r_run okX1_locateAfter 2 (cs := []) (σ' := (77, [some (.ref 37), some (.int (nI t)), some (.int (nI kn)), some (.ref 77), some (.int (nI l)), some (.int (nI (mbv M))), some (.int ((nI (t + (j + 1))) - 1))], [.int (nI t), .int ((nI (t + (j + 1))) - 1)], (SS b c), Iz, J0, 0, 0)) rfl trivial ?_
    simp only [epr]
    show Rj _ _ _ _ _ _ (77, [some (.ref 37), some (.int (nI t)), some (.int (nI kn)), some (.ref 77), some (.int (nI l)), some (.int (nI (mbv M))), some (.int (nI (t + j)))], [.int (nI t), .int (nI (t + j))], (SS b c), Iz, J0, 0, 0)
    refine r_icmp okX1_locateAfter rfl (fun (h77 : (nI (t + j)) < (nI t)) => ?_) (fun (h77 : ¬ (nI (t + j)) < (nI t)) => ?_)
    · exact absurd h77 (nI_nlt (by omega) (by omega))
    · refine r_run okX1_locateAfter 2 (cs := []) (σ' := (83, [some (.ref 37), some (.int (nI t)), some (.int (nI kn)), some (.ref 77), some (.int (nI l)), some (.int (nI (mbv M))), some (.int (nI (t + j)))], [.int (nI (mbv M)), .ref 77], (SS b c), Iz, J0, 0, 0)) rfl trivial ?_
      refine r_callV okX1_locateAfter okX0_spread [.int (nI (mbv M))] [] 77 rfl rfl rfl kkX0_spread rfl rfl (by decide) rfl rfl rfl (by decide) ⟨Nat.le_refl _, Nat.le_refl _⟩ (Nat.le_of_ble_eq_true rfl) (a_spread γ rfl hc (mb_dec M hM).2.1 rfl) (fun v1 S1 I1 J1 hp => ?_)
      obtain ⟨rfl, rfl, rfl, J1, rfl, k1, c1⟩ := hp
      show Rj _ _ _ _ _ _ (86, [some (.ref 37), some (.int (nI t)), some (.int (nI kn)), some (.ref 77), some (.int (nI l)), some (.int (nI (mbv M))), some (.int (nI (t + j)))], [], (SS b c), Iz, J1, 0, 0)
      refine r_run okX1_locateAfter 10 (cs := [vp_in (nI (t + j)) 720, vp_in (nI (t + j)) 720]) (σ' := (104, [some (.ref 37), some (.int (nI t)), some (.int (nI kn)), some (.ref 77), some (.int (nI l)), some (.int (nI (mbv M))), some (.int (nI (t + j)))], [.long (J1 39 ((nI (t + j)).toNatClampNeg)), .long (J1 38 ((nI (t + j)).toNatClampNeg)), .ref 41], (SS b c), Iz, J1, 0, 0)) rfl ⟨(vin (by omega) (by decide)), (vin (by omega) (by decide)), trivial⟩ ?_
      simp only [cq]
      show Rj _ _ _ _ _ _ (104, [some (.ref 37), some (.int (nI t)), some (.int (nI kn)), some (.ref 77), some (.int (nI l)), some (.int (nI (mbv M))), some (.int (nI (t + j)))], [.long (J1 39 (t + j)), .long (J1 38 (t + j)), .ref 41], (SS b c), Iz, J1, 0, 0)
      refine r_callV okX1_locateAfter okX0_load [.long (J1 38 (t + j)), .long (J1 39 (t + j))] [] 41 rfl rfl rfl kkX0_load rfl rfl (by decide) rfl rfl rfl (by decide) ⟨Nat.le_refl _, Nat.le_refl _⟩ (Nat.le_of_ble_eq_true rfl) (a_load γ rfl (f := mayK I kn (t + j)) (Rw_j ((kJ_t hk (kJ_m (by decide) k1)) 38 (by decide)) ((kJ_t hk (kJ_m (by decide) k1)) 39 (by decide)) hRw (t + j) (by omega)).1 (Rw_j ((kJ_t hk (kJ_m (by decide) k1)) 38 (by decide)) ((kJ_t hk (kJ_m (by decide) k1)) 39 (by decide)) hRw (t + j) (by omega)).2.1 (Rw_j ((kJ_t hk (kJ_m (by decide) k1)) 38 (by decide)) ((kJ_t hk (kJ_m (by decide) k1)) 39 (by decide)) hRw (t + j) (by omega)).2.2) (fun v1 S1 I1 J1 hp => ?_)
      obtain ⟨rfl, rfl, rfl, J2, rfl, k2, c2⟩ := hp
      show Rj _ _ _ _ _ _ (107, [some (.ref 37), some (.int (nI t)), some (.int (nI kn)), some (.ref 77), some (.int (nI l)), some (.int (nI (mbv M))), some (.int (nI (t + j)))], [], (SS b c), Iz, J2, 0, 0)
      refine r_run okX1_locateAfter 3 (cs := []) (σ' := (112, [some (.ref 37), some (.int (nI t)), some (.int (nI kn)), some (.ref 77), some (.int (nI l)), some (.int (nI (mbv M))), some (.int (nI (t + j)))], [.ref 41, .ref 77], (SS b c), Iz, J2, 0, 0)) rfl trivial ?_
      refine r_callV okX1_locateAfter okX0_keep [.ref 41] [] 77 rfl rfl rfl kkX0_keep rfl rfl (by decide) rfl rfl rfl (by decide) ⟨Nat.le_refl _, Nat.le_refl _⟩ (Nat.le_of_ble_eq_true rfl) (a_keep γ rfl (cs_k (k2 77 (by decide)) c1) rfl (by decide) c2) (fun v1 S1 I1 J1 hp => ?_)
      obtain ⟨rfl, rfl, rfl, J3, rfl, k3, c3⟩ := hp
      show Rj _ _ _ _ _ _ (115, [some (.ref 37), some (.int (nI t)), some (.int (nI kn)), some (.ref 77), some (.int (nI l)), some (.int (nI (mbv M))), some (.int (nI (t + j)))], [], (SS b c), Iz, J3, 0, 0)
      refine r_run okX1_locateAfter 2 (cs := []) (σ' := (74, [some (.ref 37), some (.int (nI t)), some (.int (nI kn)), some (.ref 77), some (.int (nI l)), some (.int (nI (mbv M))), some (.int ((nI (t + j)) + (-1)))], [], (SS b c), Iz, J3, 0, 0)) rfl trivial ?_
      rw [add_m1]
      refine ih J3 (by omega) (kJ_t (kJ_t (kJ_t hk (kJ_m (by decide) k1)) (kJ_m (by decide) k2)) (kJ_m (by decide) k3)) (cs_f (fun x hx => ?_) c3)
      rw [show l - (t + j) = (l - (t + (j + 1))) + 1 by omega, aftK, show l - ((l - (t + (j + 1))) + 1) = t + j by omega, eM]
      show (fromN (nI (mbv M)) _ 96 x && _) = _
      rw [back_go hM hx, Bool.and_comm]
theorem o_after2 (γ : GE) {b c : Bool} {I : AI} {J : AJ} {t kn : Nat} (ht : t < 720) (hkn : kn < 301 ∧ kn ≤ nv (I 100 13)) (hB : HBs I J) (hH : OHea I J) (hkn2 : kn ≤ nv (I 100 13)) {l : Nat} (hl : l < 720) (el : lsmN I kn = nI l) (htl : t < l) : Ct γ mX1_locateAfter 4 0 0 [.ref 37, .int (nI t), .int (nI kn), .ref 77] (SS b c) I J (fun rt S' I' J' => none = rt ∧ (SS b c) = S' ∧ LoP I J (aftK I kn l (l - t)) I' J') := by
  have cl : (nI l).toNatClampNeg = l := nI_clamp (by omega)
  have hmx : (if (nI t) < (nI l) then (nI l) else (nI t)) = nI l := if_pos (nI_lt htl (by omega))
  obtain ⟨M, hM, eM⟩ := hB.2.2.2.2.1
  refine ct_of okX1_locateAfter (L := [some (.ref 37), some (.int (nI t)), some (.int (nI kn)), some (.ref 77), none, none, none]) (Nat.le_of_ble_eq_true rfl) rfl ?_
  refine r_run okX1_locateAfter 3 (cs := []) (σ' := (5, [some (.ref 37), some (.int (nI t)), some (.int (nI kn)), some (.ref 77), none, none, none], [.int (nI kn), .ref 29], (SS b c), I, J, 0, 0)) rfl trivial ?_
  refine r_callV okX1_locateAfter okX7_lastSureMinute [.int (nI kn)] [] 29 rfl rfl rfl kkX7_lastSureMinute rfl rfl (by decide) rfl rfl rfl (by decide) ⟨Nat.le_refl _, Nat.le_refl _⟩ (Nat.le_of_ble_eq_true rfl) (o_lastSure γ hB.1 hB.2.1 hkn2) (fun v1 S1 I1 J1 hp => ?_)
  obtain ⟨rfl, rfl, rfl, rfl⟩ := hp
  show Rj _ _ _ _ _ _ (8, [some (.ref 37), some (.int (nI t)), some (.int (nI kn)), some (.ref 77), none, none, none], [.int (lsmN I kn)], (SS b c), I, J, 0, 0)
  simp only [el]
  show Rj _ _ _ _ _ _ (8, [some (.ref 37), some (.int (nI t)), some (.int (nI kn)), some (.ref 77), none, none, none], [.int (nI l)], (SS b c), I, J, 0, 0)
  refine r_run okX1_locateAfter 4 (cs := []) (σ' := (14, [some (.ref 37), some (.int (nI t)), some (.int (nI kn)), some (.ref 77), some (.int (nI l)), none, none], [.int (nI l), .int (nI t), .ref 37], (SS b c), I, J, 0, 0)) rfl trivial ?_
  refine r_mmax okX1_locateAfter rfl rfl ⟨Nat.le_refl _, Nat.le_refl _⟩ (Nat.le_of_ble_eq_true rfl) ?_
  show Rj _ _ _ _ _ _ (17, [some (.ref 37), some (.int (nI t)), some (.int (nI kn)), some (.ref 77), some (.int (nI l)), none, none], [.int (if (nI t) < (nI l) then (nI l) else (nI t)), .ref 37], (SS b c), I, J, 0, 0)
  refine r_run okX1_locateAfter 1 (cs := []) (σ' := (18, [some (.ref 37), some (.int (nI t)), some (.int (nI kn)), some (.ref 77), some (.int (nI l)), none, none], [.int (nI kn), .int (if (nI t) < (nI l) then (nI l) else (nI t)), .ref 37], (SS b c), I, J, 0, 0)) rfl trivial ?_
  simp only [hmx]
  show Rj _ _ _ _ _ _ (18, [some (.ref 37), some (.int (nI t)), some (.int (nI kn)), some (.ref 77), some (.int (nI l)), none, none], [.int (nI kn), .int (nI l), .ref 37], (SS b c), I, J, 0, 0)
  refine r_callV okX1_locateAfter okX1_reach [.int (nI l), .int (nI kn)] [] 37 rfl rfl rfl kkX1_reach rfl rfl (by decide) rfl rfl rfl (by decide) ⟨Nat.le_refl _, Nat.le_refl _⟩ (Nat.le_of_ble_eq_true rfl) (o_reach γ (t := l) (kn := kn) hl hkn.1 hB hH) (fun v1 S1 I1 J1 hp => ?_)
  obtain ⟨rfl, rfl, hz, z6, z7, z8, ⟨km, hkm, htk, z9, hRw⟩, kz⟩ := hp
  obtain ⟨Iz, eIz⟩ : ∃ z, z = I1 := ⟨_, rfl⟩
  subst eIz
  obtain ⟨Jz, eJz⟩ : ∃ z, z = J1 := ⟨_, rfl⟩
  subst eJz
  show Rj _ _ _ _ _ _ (21, [some (.ref 37), some (.int (nI t)), some (.int (nI kn)), some (.ref 77), some (.int (nI l)), none, none], [], (SS b c), Iz, Jz, 0, 0)
  refine r_run okX1_locateAfter 2 (cs := []) (σ' := (24, [some (.ref 37), some (.int (nI t)), some (.int (nI kn)), some (.ref 77), some (.int (nI l)), none, none], [.int (nI l), .int (nI t)], (SS b c), Iz, Jz, 0, 0)) rfl trivial ?_
  refine r_icmp okX1_locateAfter rfl (fun (h24 : (nI t) < (nI l)) => ?_) (fun (h24 : ¬ (nI t) < (nI l)) => ?_)
  · refine r_run okX1_locateAfter 9 (cs := [vp_in (nI l) 720, vp_in (nI l) 720]) (σ' := (59, [some (.ref 37), some (.int (nI t)), some (.int (nI kn)), some (.ref 77), some (.int (nI l)), none, none], [.long (Jz 39 ((nI l).toNatClampNeg)), .long (Jz 38 ((nI l).toNatClampNeg)), .ref 77], (SS b c), Iz, Jz, 0, 0)) rfl ⟨(vin hl (by decide)), (vin hl (by decide)), trivial⟩ ?_
    simp only [cl]
    show Rj _ _ _ _ _ _ (59, [some (.ref 37), some (.int (nI t)), some (.int (nI kn)), some (.ref 77), some (.int (nI l)), none, none], [.long (Jz 39 l), .long (Jz 38 l), .ref 77], (SS b c), Iz, Jz, 0, 0)
    refine r_callV okX1_locateAfter okX0_load [.long (Jz 38 l), .long (Jz 39 l)] [] 77 rfl rfl rfl kkX0_load rfl rfl (by decide) rfl rfl rfl (by decide) ⟨Nat.le_refl _, Nat.le_refl _⟩ (Nat.le_of_ble_eq_true rfl) (a_load γ rfl (f := mayK I kn l) (hRw l (by omega)).1 (hRw l (by omega)).2.1 (hRw l (by omega)).2.2) (fun v1 S1 I1 J1 hp => ?_)
    obtain ⟨rfl, rfl, rfl, J1, rfl, k1, c1⟩ := hp
    show Rj _ _ _ _ _ _ (62, [some (.ref 37), some (.int (nI t)), some (.int (nI kn)), some (.ref 77), some (.int (nI l)), none, none], [], (SS b c), Iz, J1, 0, 0)
    refine r_run okX1_locateAfter 1 (cs := []) (σ' := (63, [some (.ref 37), some (.int (nI t)), some (.int (nI kn)), some (.ref 77), some (.int (nI l)), none, none], [.ref 37], (SS b c), Iz, J1, 0, 0)) rfl trivial ?_
    refine r_callV okX1_locateAfter okX1_movesBack [] [] 37 rfl rfl rfl kkX1_movesBack rfl rfl (by decide) rfl rfl rfl (by decide) ⟨Nat.le_refl _, Nat.le_refl _⟩ (Nat.le_of_ble_eq_true rfl) (o_movesBack γ hM (M := M) ((z6.trans hH.1).trans eM)) (fun v1 S1 I1 J1 hp => ?_)
    obtain ⟨rfl, rfl, rfl, rfl⟩ := hp
    show Rj _ _ _ _ _ _ (66, [some (.ref 37), some (.int (nI t)), some (.int (nI kn)), some (.ref 77), some (.int (nI l)), none, none], [.int (nI (mbv M))], (SS b c), Iz, J1, 0, 0)
    refine r_run okX1_locateAfter 5 (cs := []) (σ' := (74, [some (.ref 37), some (.int (nI t)), some (.int (nI kn)), some (.ref 77), some (.int (nI l)), some (.int (nI (mbv M))), some (.int ((nI l) - 1))], [], (SS b c), Iz, J1, 0, 0)) rfl trivial ?_
    have h := lp_aft γ (b := b) (c := c) (J := J) (km := km) hl hM eM htl hz kz htk hRw (fun J2 e1 e2 => OHea_re hz z6 z7 hH.1 hH.2.1 hkn.2 hkm z8 z9 (Rw_j e1 e2 hRw)) (l - t) J1 (by omega) (kJ_m (by decide) k1) (by rw [show t + (l - t) = l by omega, Nat.sub_self]; exact c1)
    rw [show t + (l - t) = l by omega] at h
    exact h
  · exact absurd (nI_lt htl (by omega)) h24
