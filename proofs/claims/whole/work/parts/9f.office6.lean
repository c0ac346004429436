/-! ===== StormOffice: found, entries ===== -/
theorem fnd_B {I : AI} {x y : Int32} : fndB I x y = (inB x 0 (I 100 5) && (inB y 0 (I 100 5) && decide (x ≤ y))) := by
  rw [Bool.eq_iff_iff]
  unfold fndB
  simp only [Bool.and_eq_true, decide_eq_true_eq, inB_t, Int32.not_lt]
  constructor
  · intro h; exact ⟨⟨h.1, Int32.le_trans h.2.1 h.2.2⟩, ⟨Int32.le_trans h.1 h.2.1, h.2.2⟩, h.2.1⟩
  · intro h; exact ⟨h.1.1, h.2.2, h.2.1.2⟩
theorem fnd_s {I : AI} {j t : Nat} {a : Int32} : fndS I (j + 1) t a = fndS I j (t + 1) (a + fdV I t) := by
  rw [fndS]; unfold fdV
  split
  · rw [Int32.add_zero]
  · rw [Int32.sub_eq_add_neg, Int32.sub_eq_add_neg, Int32.add_assoc]
theorem lp_ofnd (γ : GE) {b c : Bool} {I : AI} {J : AJ} (hN : ONow I) (hO : OWar I J) (hI : MWar I) (hD : WDis I) (hT : OTru I) (hM : MTru I) (hL : OLd I) {p q : Nat} (hq : q < 720) : ∀ (j t : Nat) (acc : Int32) (Jk : AJ), t + j = q + 1 → kJ [62] J Jk → Rj γ mX11_found 3 0 0 (fun rt S' I' J' => some (.int (fndS I j t acc)) = rt ∧ (SS b c) = S' ∧ I = I' ∧ kJ [62] J J') (28, [some (.ref 0), some (.int (nI p)), some (.int (nI q)), some (.int acc), some (.int (nI t))], [], (SS b c), I, Jk, 0, 0) := by
  intro j
  induction j with
  | zero =>
    intro t acc Jk hj hk
    refine r_run okX11_found 2 (cs := []) (σ' := (31, [some (.ref 0), some (.int (nI p)), some (.int (nI q)), some (.int acc), some (.int (nI t))], [.int (nI q), .int (nI t)], (SS b c), I, Jk, 0, 0)) rfl trivial ?_
    refine r_icmp okX11_found rfl (fun (h31 : (nI q) < (nI t)) => ?_) (fun (h31 : ¬ (nI q) < (nI t)) => ?_)
    · refine r_run okX11_found 1 (cs := []) (σ' := (53, [some (.ref 0), some (.int (nI p)), some (.int (nI q)), some (.int acc), some (.int (nI t))], [.int acc], (SS b c), I, Jk, 0, 0)) rfl trivial ?_
      refine r_iret okX11_found rfl rfl rfl (Nat.le_refl _) (Nat.le_refl _) ?_
      exact ⟨rfl, rfl, rfl, hk⟩
    · exact absurd (nI_lt (a := q) (b := t) (by omega) (by omega)) h31
  | succ j ih =>
    intro t acc Jk hj hk
    refine r_run okX11_found 2 (cs := []) (σ' := (31, [some (.ref 0), some (.int (nI p)), some (.int (nI q)), some (.int acc), some (.int (nI t))], [.int (nI q), .int (nI t)], (SS b c), I, Jk, 0, 0)) rfl trivial ?_
    refine r_icmp okX11_found rfl (fun (h31 : (nI q) < (nI t)) => ?_) (fun (h31 : ¬ (nI q) < (nI t)) => ?_)
    · exact absurd h31 (nI_nlt (a := q) (b := t) (by omega) (by omega))
    · refine r_run okX11_found 4 (cs := []) (σ' := (41, [some (.ref 0), some (.int (nI p)), some (.int (nI q)), some (.int acc), some (.int (nI t))], [.int (nI t), .ref 63, .int acc], (SS b c), I, Jk, 0, 0)) rfl trivial ?_
      refine r_callV okX11_found okX8_foundAt [.int (nI t)] [.int acc] 63 rfl rfl rfl kkX8_foundAt rfl rfl (by decide) rfl rfl rfl (by decide) ⟨Nat.le_refl _, Nat.le_refl _⟩ (Nat.le_of_ble_eq_true rfl) (o_foundAt γ (OWar_k (fun _ _ => rfl) rfl (hk 58 (by decide)) (hk 59 (by decide)) hO) hI hD hT hM hL (n := t) (by omega)) (fun v1 S1 I1 J1 hp => ?_)
      obtain ⟨rfl, rfl, rfl, kz⟩ := hp
      obtain ⟨Jz, eJz⟩ : ∃ z, z = J1 := ⟨_, rfl⟩
      subst eJz
      show Rj _ _ _ _ _ _ (44, [some (.ref 0), some (.int (nI p)), some (.int (nI q)), some (.int acc), some (.int (nI t))], [.int (fdV I t), .int acc], (SS b c), I, Jz, 0, 0)
      refine r_run okX11_found 4 (cs := []) (σ' := (28, [some (.ref 0), some (.int (nI p)), some (.int (nI q)), some (.int (acc + (fdV I t))), some (.int ((nI t) + 1))], [], (SS b c), I, Jz, 0, 0)) rfl trivial ?_
      rw [nI_eq1, fnd_s]
      exact ih (t + 1) _ Jz (by omega) (kJ_t hk kz)
theorem o_found (γ : GE) {b c : Bool} {I : AI} {J : AJ} (hN : ONow I) (hO : OWar I J) (hI : MWar I) (hD : WDis I) (hT : OTru I) (hM : MTru I) (hL : OLd I) (hn5 : rg 720 (I 100 5)) (x y : Int32) : Ct γ mX11_found 3 0 0 [.ref 0, .int x, .int y] (SS b c) I J (fun rt S' I' J' => some (.int (fndV I x y)) = rt ∧ (SS b c) = S' ∧ I = I' ∧ kJ [62] J J') := by
  refine ct_of okX11_found (L := [some (.ref 0), some (.int x), some (.int y), none, none]) (Nat.le_of_ble_eq_true rfl) rfl ?_
  refine r_run okX11_found 2 (cs := []) (σ' := (2, [some (.ref 0), some (.int x), some (.int y), none, none], [.int x, .ref 0], (SS b c), I, J, 0, 0)) rfl trivial ?_
  refine r_callV okX11_found okX11_isPast [.int x] [] 0 rfl rfl rfl kkX11_isPast rfl rfl (by decide) rfl rfl rfl (by decide) ⟨Nat.le_refl _, Nat.le_refl _⟩ (Nat.le_of_ble_eq_true rfl) (o_isPast γ hN x) (fun v1 S1 I1 J1 hp => ?_)
  obtain ⟨rfl, rfl, rfl, rfl⟩ := hp
  show Rj _ _ _ _ _ _ (5, [some (.ref 0), some (.int x), some (.int y), none, none], [.int (bi (inB x 0 (I 100 5)))], (SS b c), I, J, 0, 0)
  refine r_ifc okX11_found rfl (fun (h5 : (bi (inB x 0 (I 100 5))) = (0 : Int32)) => ?_) (fun (h5 : ¬ (bi (inB x 0 (I 100 5))) = (0 : Int32)) => ?_)
  · have h5s := bi_0.mp h5
    refine r_run okX11_found 1 (cs := []) (σ' := (22, [some (.ref 0), some (.int x), some (.int y), none, none], [.int (-1)], (SS b c), I, J, 0, 0)) rfl trivial ?_
    refine r_iret okX11_found rfl rfl rfl (Nat.le_refl _) (Nat.le_refl _) ?_
    exact ⟨by unfold fndV; rw [fnd_B, h5s]; rfl, rfl, rfl, kJ_r⟩
  · have h5s := bi_n0.mp h5
    refine r_run okX11_found 2 (cs := []) (σ' := (10, [some (.ref 0), some (.int x), some (.int y), none, none], [.int y, .ref 0], (SS b c), I, J, 0, 0)) rfl trivial ?_
    refine r_callV okX11_found okX11_isPast [.int y] [] 0 rfl rfl rfl kkX11_isPast rfl rfl (by decide) rfl rfl rfl (by decide) ⟨Nat.le_refl _, Nat.le_refl _⟩ (Nat.le_of_ble_eq_true rfl) (o_isPast γ hN y) (fun v1 S1 I1 J1 hp => ?_)
    obtain ⟨rfl, rfl, rfl, rfl⟩ := hp
    show Rj _ _ _ _ _ _ (13, [some (.ref 0), some (.int x), some (.int y), none, none], [.int (bi (inB y 0 (I 100 5)))], (SS b c), I, J, 0, 0)
    refine r_ifc okX11_found rfl (fun (h13 : (bi (inB y 0 (I 100 5))) = (0 : Int32)) => ?_) (fun (h13 : ¬ (bi (inB y 0 (I 100 5))) = (0 : Int32)) => ?_)
    · have h13s := bi_0.mp h13
      refine r_run okX11_found 1 (cs := []) (σ' := (22, [some (.ref 0), some (.int x), some (.int y), none, none], [.int (-1)], (SS b c), I, J, 0, 0)) rfl trivial ?_
      refine r_iret okX11_found rfl rfl rfl (Nat.le_refl _) (Nat.le_refl _) ?_
      exact ⟨by unfold fndV; rw [fnd_B, h5s, h13s]; rfl, rfl, rfl, kJ_r⟩
    · have h13s := bi_n0.mp h13
      refine r_run okX11_found 2 (cs := []) (σ' := (18, [some (.ref 0), some (.int x), some (.int y), none, none], [.int y, .int x], (SS b c), I, J, 0, 0)) rfl trivial ?_
      refine r_icmp okX11_found rfl (fun (h18 : x ≤ y) => ?_) (fun (h18 : ¬ x ≤ y) => ?_)
      · refine r_run okX11_found 4 (cs := []) (σ' := (28, [some (.ref 0), some (.int x), some (.int y), some (.int 0), some (.int x)], [], (SS b c), I, J, 0, 0)) rfl trivial ?_
        have hx := past_vin hn5 h5s
        have hy := past_vin hn5 h13s
        have h720 := (rg_nv hn5 (by decide)).1
        have hb : fndB I x y = true := by rw [fnd_B, h5s, h13s, decide_eq_true h18]; rfl
        have hle : nv x ≤ nv y := Nat.le_of_not_lt fun q => by
          rw [hx.2.2, hy.2.2] at h18
          exact absurd h18 (nI_ge q (by omega))
        have e : fndV I x y = fndS I (nv y + 1 - nv x) (nv x) 0 := by unfold fndV; rw [hb, if_pos rfl]
        have hh := lp_ofnd γ (b := b) (c := c) (J := J) hN hO hI hD hT hM hL (p := nv x) (q := nv y) (by omega) (nv y + 1 - nv x) (nv x) 0 J (by omega) kJ_r
        rw [← e, ← hx.2.2, ← hy.2.2] at hh
        exact hh
      · refine r_run okX11_found 1 (cs := []) (σ' := (22, [some (.ref 0), some (.int x), some (.int y), none, none], [.int (-1)], (SS b c), I, J, 0, 0)) rfl trivial ?_
        refine r_iret okX11_found rfl rfl rfl (Nat.le_refl _) (Nat.le_refl _) ?_
        exact ⟨by unfold fndV; rw [fnd_B, h5s, h13s, decide_eq_false h18]; rfl, rfl, rfl, kJ_r⟩
def ecV (I : AI) (y : Int32) (t : Nat) (w : Int32) : Int32 := if w = 0 then 1 else if w = 1 then (match thr I y (nI t) with | none => 1 | some _ => 0) else (match thr I y (nI t) with | none => 0 | some q => nI t - I 128 q)
def enW (r : Nat × Nat × Int32) (w : Int32) : Int32 := if w = 0 then nI r.1 else if w = 1 then nI r.2.1 else r.2.2
theorem en_s {I : AI} {y w : Int32} {j t n m : Nat} {l : Int32} (h : enI I t y = true) : ∃ n' m' l', enS I y (j + 1) t n m l = enS I y j (t + 1) n' m' l' ∧ enW (n', m', l') w = enW (n, m, l) w + ecV I y t w := by
  rw [enS, if_pos h]
  unfold ecV enW
  cases q : thr I y (nI t) with
  | none =>
    refine ⟨n + 1, m + 1, l, rfl, ?_⟩
    by_cases h0 : w = 0
    · simp only [h0, if_true]; exact nI_eq1.symm
    by_cases h1 : w = 1
    · rw [if_neg h0, if_neg h0, if_neg h0, if_pos h1, if_pos h1, if_pos h1]; exact nI_eq1.symm
    · rw [if_neg h0, if_neg h0, if_neg h0, if_neg h1, if_neg h1, if_neg h1]; exact (Int32.add_zero l).symm
  | some u =>
    refine ⟨n + 1, m, l + nI t - I 128 u, rfl, ?_⟩
    by_cases h0 : w = 0
    · simp only [h0, if_true]; exact nI_eq1.symm
    by_cases h1 : w = 1
    · rw [if_neg h0, if_neg h0, if_neg h0, if_pos h1, if_pos h1, if_pos h1]; exact (Int32.add_zero _).symm
    · rw [if_neg h0, if_neg h0, if_neg h0, if_neg h1, if_neg h1, if_neg h1]
      show l + nI t - I 128 u = l + (nI t - I 128 u)
      rw [Int32.sub_eq_add_neg, Int32.sub_eq_add_neg, Int32.add_assoc]
theorem o_atX (γ : GE) {b c : Bool} {I : AI} {J : AJ} (hO : OWar I J) (hI : MWar I) (hD : WDis I) (y t : Int32) {v : Int32} (e : bsI (thr I y t) = v) : Ct γ mX10_at 0 0 0 [.ref 52, .int y, .int t] (SS b c) I J (rI v (SS b c) I J) := by
  subst e; exact o_at γ hO hI hD y t
theorem o_ec0 (γ : GE) {b c : Bool} {I : AI} {J : AJ} (hN : ONow I) (hO : OWar I J) (hI : MWar I) (hD : WDis I) (hT : OTru I) (hM : MTru I) (hL : OLd I) {t : Nat} (y w : Int32) (ee : thr I y (nI t) = none) : Ct γ mX11_entryCounts 1 0 0 [.ref 0, .int y, .int (nI t), .int w] (SS b c) I J (rI (ecV I y t w) (SS b c) I J) := by
  have et : bsI (thr I y (nI t)) = -1 := by rw [ee]; rfl
  refine ct_of okX11_entryCounts (L := [some (.ref 0), some (.int y), some (.int (nI t)), some (.int w), none]) (Nat.le_of_ble_eq_true rfl) rfl ?_
  refine r_run okX11_entryCounts 4 (cs := []) (σ' := (6, [some (.ref 0), some (.int y), some (.int (nI t)), some (.int w), none], [.int (nI t), .int y, .ref 52], (SS b c), I, J, 0, 0)) rfl trivial ?_
  refine r_callV okX11_entryCounts okX10_at [.int y, .int (nI t)] [] 52 rfl rfl rfl kkX10_at rfl rfl (by decide) rfl rfl rfl (by decide) ⟨Nat.le_refl _, Nat.le_refl _⟩ (Nat.le_of_ble_eq_true rfl) (o_atX γ hO hI hD y (nI t) et) (fun v1 S1 I1 J1 hp => ?_)
  obtain ⟨rfl, rfl, rfl, rfl⟩ := hp
  show Rj _ _ _ _ _ _ (9, [some (.ref 0), some (.int y), some (.int (nI t)), some (.int w), none], [.int (-1)], (SS b c), I, J, 0, 0)
  refine r_run okX11_entryCounts 2 (cs := []) (σ' := (12, [some (.ref 0), some (.int y), some (.int (nI t)), some (.int w), some (.int (-1))], [.int w], (SS b c), I, J, 0, 0)) rfl trivial ?_
  refine r_ifc okX11_entryCounts rfl (fun (h12 : ¬ w = (0 : Int32)) => ?_) (fun h120 => ?_)
  · refine r_run okX11_entryCounts 2 (cs := []) (σ' := (19, [some (.ref 0), some (.int y), some (.int (nI t)), some (.int w), some (.int (-1))], [.int 1, .int w], (SS b c), I, J, 0, 0)) rfl trivial ?_
    refine r_icmp okX11_entryCounts rfl (fun (h19 : ¬ w = (1 : Int32)) => ?_) (fun h190 => ?_)
    · refine r_run okX11_entryCounts 2 (cs := []) (σ' := (37, [some (.ref 0), some (.int y), some (.int (nI t)), some (.int w), some (.int (-1))], [.int (-1), .int (-1)], (SS b c), I, J, 0, 0)) rfl trivial ?_
      refine r_icmp okX11_entryCounts rfl (fun (h37 : ¬ ((-1) : Int32) = ((-1) : Int32)) => ?_) (fun h370 => ?_)
      · exact absurd h37 (by decide)
      · have h37 : ((-1) : Int32) = ((-1) : Int32) := Classical.not_not.mp h370
        refine r_run okX11_entryCounts 2 (cs := []) (σ' := (55, [some (.ref 0), some (.int y), some (.int (nI t)), some (.int w), some (.int (-1))], [.int 0], (SS b c), I, J, 0, 0)) rfl trivial ?_
        refine r_iret okX11_entryCounts rfl rfl rfl (Nat.le_refl _) (Nat.le_refl _) ?_
        exact ⟨by unfold ecV; rw [if_neg h12, if_neg h19, ee], rfl, rfl, rfl⟩
    · have h19 : w = (1 : Int32) := Classical.not_not.mp h190
      refine r_run okX11_entryCounts 2 (cs := []) (σ' := (25, [some (.ref 0), some (.int y), some (.int (nI t)), some (.int w), some (.int (-1))], [.int (-1), .int (-1)], (SS b c), I, J, 0, 0)) rfl trivial ?_
      refine r_icmp okX11_entryCounts rfl (fun (h25 : ¬ ((-1) : Int32) = ((-1) : Int32)) => ?_) (fun h250 => ?_)
      · exact absurd h25 (by decide)
      · have h25 : ((-1) : Int32) = ((-1) : Int32) := Classical.not_not.mp h250
        refine r_run okX11_entryCounts 2 (cs := []) (σ' := (33, [some (.ref 0), some (.int y), some (.int (nI t)), some (.int w), some (.int (-1))], [.int 1], (SS b c), I, J, 0, 0)) rfl trivial ?_
        refine r_iret okX11_entryCounts rfl rfl rfl (Nat.le_refl _) (Nat.le_refl _) ?_
        exact ⟨by unfold ecV; rw [if_neg h12, if_pos h19, ee], rfl, rfl, rfl⟩
  · have h12 : w = (0 : Int32) := Classical.not_not.mp h120
    refine r_run okX11_entryCounts 1 (cs := []) (σ' := (16, [some (.ref 0), some (.int y), some (.int (nI t)), some (.int w), some (.int (-1))], [.int 1], (SS b c), I, J, 0, 0)) rfl trivial ?_
    refine r_iret okX11_entryCounts rfl rfl rfl (Nat.le_refl _) (Nat.le_refl _) ?_
    exact ⟨by unfold ecV; rw [if_pos h12], rfl, rfl, rfl⟩
theorem o_ec1 (γ : GE) {b c : Bool} {I : AI} {J : AJ} (hN : ONow I) (hO : OWar I J) (hI : MWar I) (hD : WDis I) (hT : OTru I) (hM : MTru I) (hL : OLd I) {t : Nat} (y w : Int32) {u : Nat} (ee : thr I y (nI t) = some u) : Ct γ mX11_entryCounts 1 0 0 [.ref 0, .int y, .int (nI t), .int w] (SS b c) I J (rI (ecV I y t w) (SS b c) I J) := by
  have et : bsI (thr I y (nI t)) = nI u := by rw [ee]; rfl
  have hu := (thr_lt hI.1 ee).1
  have hu2 := (thr_lt hI.1 ee).2
  refine ct_of okX11_entryCounts (L := [some (.ref 0), some (.int y), some (.int (nI t)), some (.int w), none]) (Nat.le_of_ble_eq_true rfl) rfl ?_
  refine r_run okX11_entryCounts 4 (cs := []) (σ' := (6, [some (.ref 0), some (.int y), some (.int (nI t)), some (.int w), none], [.int (nI t), .int y, .ref 52], (SS b c), I, J, 0, 0)) rfl trivial ?_
  refine r_callV okX11_entryCounts okX10_at [.int y, .int (nI t)] [] 52 rfl rfl rfl kkX10_at rfl rfl (by decide) rfl rfl rfl (by decide) ⟨Nat.le_refl _, Nat.le_refl _⟩ (Nat.le_of_ble_eq_true rfl) (o_atX γ hO hI hD y (nI t) et) (fun v1 S1 I1 J1 hp => ?_)
  obtain ⟨rfl, rfl, rfl, rfl⟩ := hp
  show Rj _ _ _ _ _ _ (9, [some (.ref 0), some (.int y), some (.int (nI t)), some (.int w), none], [.int (nI u)], (SS b c), I, J, 0, 0)
  refine r_run okX11_entryCounts 2 (cs := []) (σ' := (12, [some (.ref 0), some (.int y), some (.int (nI t)), some (.int w), some (.int (nI u))], [.int w], (SS b c), I, J, 0, 0)) rfl trivial ?_
  refine r_ifc okX11_entryCounts rfl (fun (h12 : ¬ w = (0 : Int32)) => ?_) (fun h120 => ?_)
  · refine r_run okX11_entryCounts 2 (cs := []) (σ' := (19, [some (.ref 0), some (.int y), some (.int (nI t)), some (.int w), some (.int (nI u))], [.int 1, .int w], (SS b c), I, J, 0, 0)) rfl trivial ?_
    refine r_icmp okX11_entryCounts rfl (fun (h19 : ¬ w = (1 : Int32)) => ?_) (fun h190 => ?_)
    · refine r_run okX11_entryCounts 2 (cs := []) (σ' := (37, [some (.ref 0), some (.int y), some (.int (nI t)), some (.int w), some (.int (nI u))], [.int (-1), .int (nI u)], (SS b c), I, J, 0, 0)) rfl trivial ?_
      refine r_icmp okX11_entryCounts rfl (fun (h37 : ¬ (nI u) = ((-1) : Int32)) => ?_) (fun h370 => ?_)
      · refine r_run okX11_entryCounts 4 (cs := []) (σ' := (51, [some (.ref 0), some (.int y), some (.int (nI t)), some (.int w), some (.int (nI u))], [.int (nI u), .ref 52, .int (nI t)], (SS b c), I, J, 0, 0)) rfl trivial ?_
        refine r_callV okX11_entryCounts okX10_beginOf [.int (nI u)] [.int (nI t)] 52 rfl rfl rfl kkX10_beginOf rfl rfl (by decide) rfl rfl rfl (by decide) ⟨Nat.le_refl _, Nat.le_refl _⟩ (Nat.le_of_ble_eq_true rfl) (o_beginOf γ hO hI hu) (fun v1 S1 I1 J1 hp => ?_)
        obtain ⟨rfl, rfl, rfl, rfl⟩ := hp
        show Rj _ _ _ _ _ _ (54, [some (.ref 0), some (.int y), some (.int (nI t)), some (.int w), some (.int (nI u))], [.int (I 128 u), .int (nI t)], (SS b c), I, J, 0, 0)
        refine r_run okX11_entryCounts 1 (cs := []) (σ' := (55, [some (.ref 0), some (.int y), some (.int (nI t)), some (.int w), some (.int (nI u))], [.int ((nI t) - (I 128 u))], (SS b c), I, J, 0, 0)) rfl trivial ?_
        refine r_iret okX11_entryCounts rfl rfl rfl (Nat.le_refl _) (Nat.le_refl _) ?_
        exact ⟨by unfold ecV; rw [if_neg h12, if_neg h19, ee], rfl, rfl, rfl⟩
      · have h37 : (nI u) = ((-1) : Int32) := Classical.not_not.mp h370
        exact absurd h37 (nI_m1 (by omega))
    · have h19 : w = (1 : Int32) := Classical.not_not.mp h190
      refine r_run okX11_entryCounts 2 (cs := []) (σ' := (25, [some (.ref 0), some (.int y), some (.int (nI t)), some (.int w), some (.int (nI u))], [.int (-1), .int (nI u)], (SS b c), I, J, 0, 0)) rfl trivial ?_
      refine r_icmp okX11_entryCounts rfl (fun (h25 : ¬ (nI u) = ((-1) : Int32)) => ?_) (fun h250 => ?_)
      · refine r_run okX11_entryCounts 1 (cs := []) (σ' := (33, [some (.ref 0), some (.int y), some (.int (nI t)), some (.int w), some (.int (nI u))], [.int 0], (SS b c), I, J, 0, 0)) rfl trivial ?_
        refine r_iret okX11_entryCounts rfl rfl rfl (Nat.le_refl _) (Nat.le_refl _) ?_
        exact ⟨by unfold ecV; rw [if_neg h12, if_pos h19, ee], rfl, rfl, rfl⟩
      · have h25 : (nI u) = ((-1) : Int32) := Classical.not_not.mp h250
        exact absurd h25 (nI_m1 (by omega))
  · have h12 : w = (0 : Int32) := Classical.not_not.mp h120
    refine r_run okX11_entryCounts 1 (cs := []) (σ' := (16, [some (.ref 0), some (.int y), some (.int (nI t)), some (.int w), some (.int (nI u))], [.int 1], (SS b c), I, J, 0, 0)) rfl trivial ?_
    refine r_iret okX11_entryCounts rfl rfl rfl (Nat.le_refl _) (Nat.le_refl _) ?_
    exact ⟨by unfold ecV; rw [if_pos h12], rfl, rfl, rfl⟩
theorem o_ec (γ : GE) {b c : Bool} {I : AI} {J : AJ} (hN : ONow I) (hO : OWar I J) (hI : MWar I) (hD : WDis I) (hT : OTru I) (hM : MTru I) (hL : OLd I) {t : Nat} (y w : Int32) : Ct γ mX11_entryCounts 1 0 0 [.ref 0, .int y, .int (nI t), .int w] (SS b c) I J (rI (ecV I y t w) (SS b c) I J) := by
  cases ee : thr I y (nI t) with
  | none => exact o_ec0 γ hN hO hI hD hT hM hL y w ee
  | some u => exact o_ec1 γ hN hO hI hD hT hM hL y w ee
theorem lp_oent (γ : GE) {b c : Bool} {I : AI} {J : AJ} (hN : ONow I) (hO : OWar I J) (hI : MWar I) (hD : WDis I) (hT : OTru I) (hM : MTru I) (hL : OLd I) {k : Nat} (hk : k < 720) (ek : I 100 5 = nI k) (y w : Int32) : ∀ (j t n m : Nat) (l : Int32), t + j = k + 1 → Rj γ mX11_entries 3 0 0 (rI (enW (enS I y j t n m l) w) (SS b c) I J) (23, [some (.ref 0), some (.int y), some (.int w), some (.int (enW (n, m, l) w)), some (.int (nI t))], [], (SS b c), I, J, 0, 0) := by
  have e15 : I 0 15 = nI k := hN.1.trans ek
  intro j
  induction j with
  | zero =>
    intro t n m l hj
    refine r_run okX11_entries 3 (cs := []) (σ' := (29, [some (.ref 0), some (.int y), some (.int w), some (.int (enW (n, m, l) w)), some (.int (nI t))], [.int (I 0 15), .int (nI t)], (SS b c), I, J, 0, 0)) rfl trivial ?_
    simp only [e15]
    show Rj _ _ _ _ _ _ (29, [some (.ref 0), some (.int y), some (.int w), some (.int (enW (n, m, l) w)), some (.int (nI t))], [.int (nI k), .int (nI t)], (SS b c), I, J, 0, 0)
    refine r_icmp okX11_entries rfl (fun (h29 : (nI k) < (nI t)) => ?_) (fun (h29 : ¬ (nI k) < (nI t)) => ?_)
    · refine r_run okX11_entries 1 (cs := []) (σ' := (63, [some (.ref 0), some (.int y), some (.int w), some (.int (enW (n, m, l) w)), some (.int (nI t))], [.int (enW (n, m, l) w)], (SS b c), I, J, 0, 0)) rfl trivial ?_
      refine r_iret okX11_entries rfl rfl rfl (Nat.le_refl _) (Nat.le_refl _) ?_
      exact ⟨rfl, rfl, rfl, rfl⟩
    · exact absurd (nI_lt (a := k) (b := t) (by omega) (by omega)) h29
  | succ j ih =>
    intro t n m l hj
    refine r_run okX11_entries 3 (cs := []) (σ' := (29, [some (.ref 0), some (.int y), some (.int w), some (.int (enW (n, m, l) w)), some (.int (nI t))], [.int (I 0 15), .int (nI t)], (SS b c), I, J, 0, 0)) rfl trivial ?_
    simp only [e15]
    show Rj _ _ _ _ _ _ (29, [some (.ref 0), some (.int y), some (.int w), some (.int (enW (n, m, l) w)), some (.int (nI t))], [.int (nI k), .int (nI t)], (SS b c), I, J, 0, 0)
    refine r_icmp okX11_entries rfl (fun (h29 : (nI k) < (nI t)) => ?_) (fun (h29 : ¬ (nI k) < (nI t)) => ?_)
    · exact absurd h29 (nI_nlt (a := k) (b := t) (by omega) (by omega))
    · refine r_run okX11_entries 4 (cs := []) (σ' := (39, [some (.ref 0), some (.int y), some (.int w), some (.int (enW (n, m, l) w)), some (.int (nI t))], [.int (nI t), .int y, .ref 63], (SS b c), I, J, 0, 0)) rfl trivial ?_
      refine r_callV okX11_entries okX8_enters [.int y, .int (nI t)] [] 63 rfl rfl rfl kkX8_enters rfl rfl (by decide) rfl rfl rfl (by decide) ⟨Nat.le_refl _, Nat.le_refl _⟩ (Nat.le_of_ble_eq_true rfl) (o_enters γ hT hM hL (n := t) (by omega) y) (fun v1 S1 I1 J1 hp => ?_)
      obtain ⟨rfl, rfl, rfl, rfl⟩ := hp
      show Rj _ _ _ _ _ _ (42, [some (.ref 0), some (.int y), some (.int w), some (.int (enW (n, m, l) w)), some (.int (nI t))], [.int (bi (enI I t y))], (SS b c), I, J, 0, 0)
      refine r_ifc okX11_entries rfl (fun (h42 : (bi (enI I t y)) = (0 : Int32)) => ?_) (fun (h42 : ¬ (bi (enI I t y)) = (0 : Int32)) => ?_)
      · refine r_run okX11_entries 2 (cs := []) (σ' := (23, [some (.ref 0), some (.int y), some (.int w), some (.int (enW (n, m, l) w)), some (.int ((nI t) + 1))], [], (SS b c), I, J, 0, 0)) rfl trivial ?_
        rw [nI_eq1]
        have h := ih (t + 1) n m l (by omega)
        rw [enS, if_neg (show ¬ enI I t y = true by rw [bi_0.mp h42]; decide)]
        exact h
      · refine r_run okX11_entries 5 (cs := []) (σ' := (51, [some (.ref 0), some (.int y), some (.int w), some (.int (enW (n, m, l) w)), some (.int (nI t))], [.int w, .int (nI t), .int y, .ref 0, .int (enW (n, m, l) w)], (SS b c), I, J, 0, 0)) rfl trivial ?_
        refine r_callV okX11_entries okX11_entryCounts [.int y, .int (nI t), .int w] [.int (enW (n, m, l) w)] 0 rfl rfl rfl kkX11_entryCounts rfl rfl (by decide) rfl rfl rfl (by decide) ⟨Nat.le_refl _, Nat.le_refl _⟩ (Nat.le_of_ble_eq_true rfl) (o_ec γ hN hO hI hD hT hM hL (t := t) y w) (fun v1 S1 I1 J1 hp => ?_)
        obtain ⟨rfl, rfl, rfl, rfl⟩ := hp
        show Rj _ _ _ _ _ _ (54, [some (.ref 0), some (.int y), some (.int w), some (.int (enW (n, m, l) w)), some (.int (nI t))], [.int (ecV I y t w), .int (enW (n, m, l) w)], (SS b c), I, J, 0, 0)
        refine r_run okX11_entries 4 (cs := []) (σ' := (23, [some (.ref 0), some (.int y), some (.int w), some (.int ((enW (n, m, l) w) + (ecV I y t w))), some (.int ((nI t) + 1))], [], (SS b c), I, J, 0, 0)) rfl trivial ?_
        obtain ⟨n', m', l', h1, h2⟩ := en_s (w := w) (j := j) (n := n) (m := m) (l := l) (bi_n0.mp h42)
        have h := ih (t + 1) n' m' l' (by omega)
        rw [nI_eq1, h1]
        rw [h2] at h
        exact h
theorem o_entries (γ : GE) {b c : Bool} {I : AI} {J : AJ} (hN : ONow I) (hO : OWar I J) (hI : MWar I) (hD : WDis I) (hT : OTru I) (hM : MTru I) (hL : OLd I) (hn5 : rg 720 (I 100 5)) (y w : Int32) : Ct γ mX11_entries 3 0 0 [.ref 0, .int y, .int w] (SS b c) I J (rI (entV I y w) (SS b c) I J) := by
  refine ct_of okX11_entries (L := [some (.ref 0), some (.int y), some (.int w), none, none]) (Nat.le_of_ble_eq_true rfl) rfl ?_
  refine r_run okX11_entries 1 (cs := []) (σ' := (1, [some (.ref 0), some (.int y), some (.int w), none, none], [.int y], (SS b c), I, J, 0, 0)) rfl trivial ?_
  refine r_callS okX11_entries okX11_isCounty [.int y] [] rfl rfl rfl kkX11_isCounty rfl rfl (by decide) (by decide) ⟨Nat.le_refl _, Nat.le_refl _⟩ (Nat.le_of_ble_eq_true rfl) (o_isCounty γ y) (fun v1 S1 I1 J1 hp => ?_)
  obtain ⟨rfl, rfl, rfl, rfl⟩ := hp
  show Rj _ _ _ _ _ _ (4, [some (.ref 0), some (.int y), some (.int w), none, none], [.int (bi (ctyB y))], (SS b c), I, J, 0, 0)
  refine r_ifc okX11_entries rfl (fun (h4 : (bi (ctyB y)) = (0 : Int32)) => ?_) (fun (h4 : ¬ (bi (ctyB y)) = (0 : Int32)) => ?_)
  · have h4s := bi_0.mp h4
    refine r_run okX11_entries 1 (cs := []) (σ' := (17, [some (.ref 0), some (.int y), some (.int w), none, none], [.int (-1)], (SS b c), I, J, 0, 0)) rfl trivial ?_
    refine r_iret okX11_entries rfl rfl rfl (Nat.le_refl _) (Nat.le_refl _) ?_
    exact ⟨by unfold entV; rw [h4s]; rfl, rfl, rfl, rfl⟩
  · have h4s := bi_n0.mp h4
    refine r_run okX11_entries 3 (cs := []) (σ' := (10, [some (.ref 0), some (.int y), some (.int w), none, none], [.int 2, .int 0, .int w], (SS b c), I, J, 0, 0)) rfl trivial ?_
    refine r_callS okX11_entries okX11_within [.int w, .int 0, .int 2] [] rfl rfl rfl kkX11_within rfl rfl (by decide) (by decide) ⟨Nat.le_refl _, Nat.le_refl _⟩ (Nat.le_of_ble_eq_true rfl) (o_win γ w 0 2) (fun v1 S1 I1 J1 hp => ?_)
    obtain ⟨rfl, rfl, rfl, rfl⟩ := hp
    show Rj _ _ _ _ _ _ (13, [some (.ref 0), some (.int y), some (.int w), none, none], [.int (bi (inB w 0 2))], (SS b c), I, J, 0, 0)
    refine r_ifc okX11_entries rfl (fun (h13 : ¬ (bi (inB w 0 2)) = (0 : Int32)) => ?_) (fun h130 => ?_)
    · have h13s := bi_n0.mp h13
      refine r_run okX11_entries 4 (cs := []) (σ' := (23, [some (.ref 0), some (.int y), some (.int w), some (.int 0), some (.int 0)], [], (SS b c), I, J, 0, 0)) rfl trivial ?_
      have e : enW (enS I y (nv (I 100 5) + 1) 0 0 0 0) w = entV I y w := by unfold entV; rw [h4s, h13s]; rfl
      have h0 : enW (0, 0, 0) w = 0 := by unfold enW; split; (· rfl); split <;> rfl
      have h := lp_oent γ (b := b) (c := c) (J := J) hN hO hI hD hT hM hL (rg_nv hn5 (by decide)).1 (rg_nv hn5 (by decide)).2 y w (nv (I 100 5) + 1) 0 0 0 0 (by omega)
      rw [e, h0] at h
      exact h
    · have h13 : (bi (inB w 0 2)) = (0 : Int32) := Classical.not_not.mp h130
      have h13s := bi_0.mp h13
      refine r_run okX11_entries 1 (cs := []) (σ' := (17, [some (.ref 0), some (.int y), some (.int w), none, none], [.int (-1)], (SS b c), I, J, 0, 0)) rfl trivial ?_
      refine r_iret okX11_entries rfl rfl rfl (Nat.le_refl _) (Nat.le_refl _) ?_
      exact ⟨by unfold entV; rw [h4s, h13s]; rfl, rfl, rfl, rfl⟩
