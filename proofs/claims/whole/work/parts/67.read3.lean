/-! ===== the reference reads: its state at a token; units, products, sums, comparisons ===== -/
def psN (T : Nat → Int32) (n : Nat) : Nat → Nat
  | 0 => skE T n 0
  | i + 1 => skE T n (toE T n (psN T n i))
def kK (T : Nat → Int32) (n i : Nat) : Int32 := toK T n (psN T n i)
def kV (T : Nat → Int32) (n i : Nat) : Int32 := toV T n (psN T n i)
def TpOK (T : Nat → Int32) (n : Nat) : Prop := n ≤ 800 ∧ ∀ q, q < n → rg 256 (T q)
def fr (q : Nat → Nat → Bool) (X X' : AI) : Prop := ∀ a b, q a b = false → X' a b = X a b
theorem fr_c {q : Nat → Nat → Bool} {X X' : AI} (h : fr q X X') (a : Nat) (ha : ∀ b, q a b = false) : X' a = X a := funext fun b => h a b (ha b)
theorem fr_r {q : Nat → Nat → Bool} {X : AI} : fr q X X := fun _ _ _ => rfl
theorem fr_t {q : Nat → Nat → Bool} {X Y Z : AI} (h1 : fr q X Y) (h2 : fr q Y Z) : fr q X Z := fun a b h => (h2 a b h).trans (h1 a b h)
theorem fr_m {q q' : Nat → Nat → Bool} {X Y : AI} (hq : ∀ a b, q' a b = false → q a b = false) (h : fr q X Y) : fr q' X Y := fun a b z => h a b (hq a b z)
def q4 (a b : Nat) : Bool := a == 100 && (b == 24 || b == 25 || b == 26 || b == 27)
def qE (a b : Nat) : Bool := (a == 100 && b == 36) || ((a == 124 || a == 125) && Nat.ble 900 b)
def qF (a b : Nat) : Bool := a == 100 && (b == 40 || b == 41)
def qP (a b : Nat) : Bool := q4 a b || (qE a b || (qF a b || (a == 126 || (a == 100 && (b == 37 || b == 39)))))
def qO (a b : Nat) : Bool := (a == 100 && (b == 37 || b == 39)) || a == 126
theorem q4_P {a b : Nat} (h : qP a b = false) : q4 a b = false := by unfold qP at h; simp only [Bool.or_eq_false_iff] at h; exact h.1
theorem qE_P {a b : Nat} (h : qP a b = false) : qE a b = false := by unfold qP at h; simp only [Bool.or_eq_false_iff] at h; exact h.2.1
theorem qF_P {a b : Nat} (h : qP a b = false) : qF a b = false := by unfold qP at h; simp only [Bool.or_eq_false_iff] at h; exact h.2.2.1
theorem qO_P {a b : Nat} (h : qP a b = false) : qO a b = false := by
  unfold qP at h; simp only [Bool.or_eq_false_iff] at h
  unfold qO; rw [Bool.or_eq_false_iff]; exact ⟨h.2.2.2.2, h.2.2.2.1⟩
theorem f4_P {X Y : AI} (h : fr q4 X Y) : fr qP X Y := fr_m (fun _ _ => q4_P) h
theorem fE_P {X Y : AI} (h : fr qE X Y) : fr qP X Y := fr_m (fun _ _ => qE_P) h
theorem fF_P {X Y : AI} (h : fr qF X Y) : fr qP X Y := fr_m (fun _ _ => qF_P) h
theorem fO_P {X Y : AI} (h : fr qO X Y) : fr qP X Y := fr_m (fun _ _ => qO_P) h
/-- the reference has read token i and stands behind it -/
def PSt (T : Nat → Int32) (n : Nat) (X : AI) (i : Nat) : Prop := X 118 = T ∧ X 100 23 = nI n ∧ MWds X ∧ (i ≤ psN T n i ∧ psN T n i ≤ n) ∧ X 100 24 = nI (toE T n (psN T n i)) ∧ X 100 25 = nI (psN T n i) ∧ toR (kK T n i) (kV T n i) (X 100 26) (X 100 27)
def Out (X : AI) (l : List (Int32 × Int32)) : Prop := X 100 36 = nI l.length ∧ cdA X 900 l
def kp (X X' : AI) : Prop := X' 126 = X 126 ∧ X' 100 39 = X 100 39 ∧ X' 100 37 = X 100 37
theorem kp_t {X Y Z : AI} (h1 : kp X Y) (h2 : kp Y Z) : kp X Z := ⟨h2.1.trans h1.1, h2.2.1.trans h1.2.1, h2.2.2.trans h1.2.2⟩
theorem kp_r {X : AI} : kp X X := ⟨rfl, rfl, rfl⟩
theorem kp_4 {X Y : AI} (h : fr q4 X Y) : kp X Y := ⟨fr_c h 126 (fun _ => rfl), h 100 39 rfl, h 100 37 rfl⟩
theorem kp_E {X Y : AI} (h : fr qE X Y) : kp X Y := ⟨fr_c h 126 (fun _ => rfl), h 100 39 rfl, h 100 37 rfl⟩
theorem MWds_k {X Y : AI} (h : Y 119 = X 119) (hW : MWds X) : MWds Y := fun i hi => by rw [h]; exact hW i hi
theorem PSt_E {T : Nat → Int32} {n i : Nat} {X Y : AI} (h : fr qE X Y) (hP : PSt T n X i) : PSt T n Y i := by
  obtain ⟨h1, h2, h3, h4, h5, h6, h7⟩ := hP
  exact ⟨(fr_c h 118 (fun _ => rfl)).trans h1, (h 100 23 rfl).trans h2, MWds_k (fr_c h 119 (fun _ => rfl)) h3, h4, (h 100 24 rfl).trans h5, (h 100 25 rfl).trans h6, by rw [h 100 26 rfl, h 100 27 rfl]; exact h7⟩
theorem PSt_O {T : Nat → Int32} {n i : Nat} {X Y : AI} (h : fr qO X Y) (hP : PSt T n X i) : PSt T n Y i := by
  obtain ⟨h1, h2, h3, h4, h5, h6, h7⟩ := hP
  exact ⟨(fr_c h 118 (fun _ => rfl)).trans h1, (h 100 23 rfl).trans h2, MWds_k (fr_c h 119 (fun _ => rfl)) h3, h4, (h 100 24 rfl).trans h5, (h 100 25 rfl).trans h6, by rw [h 100 26 rfl, h 100 27 rfl]; exact h7⟩
theorem Out_4 {X Y : AI} {l : List (Int32 × Int32)} (h : fr q4 X Y) (hO : Out X l) : Out Y l := ⟨(h 100 36 rfl).trans hO.1, cdA_k (fr_c h 124 (fun _ => rfl)) (fr_c h 125 (fun _ => rfl)) hO.2⟩
theorem Out_O {X Y : AI} {l : List (Int32 × Int32)} (h : fr qO X Y) (hO : Out X l) : Out Y l := ⟨(h 100 36 rfl).trans hO.1, cdA_k (fr_c h 124 (fun _ => rfl)) (fr_c h 125 (fun _ => rfl)) hO.2⟩
theorem skE_le {T : Nat → Int32} {n p : Nat} (h : p ≤ n) : p ≤ skE T n p ∧ skE T n p ≤ n := by
  have := rnE_le (P := blB) (T := T) (n - p) p
  unfold skE; omega
theorem toE_lt {T : Nat → Int32} {n p : Nat} (h : p < n) : p < toE T n p ∧ toE T n p ≤ n := by
  unfold toE
  rw [if_neg (by omega)]
  split
  · rename_i hl; rw [rnE_s h hl]; have := rnE_le (P := leB) (T := T) (n - (p + 1)) (p + 1); omega
  · split
    · rename_i hl; rw [rnE_s h hl]; have := rnE_le (P := diB) (T := T) (n - (p + 1)) (p + 1); omega
    · omega
theorem toK_end {T : Nat → Int32} {n p : Nat} (h : p ≤ n) (hk : ¬ toK T n p = 17) : p < n := Nat.lt_of_not_le fun q => hk (by unfold toK; rw [if_pos q])
theorem ps_s {T : Nat → Int32} {n i : Nat} (h : i ≤ psN T n i ∧ psN T n i ≤ n) (hk : ¬ kK T n i = 17) : i + 1 ≤ psN T n (i + 1) ∧ psN T n (i + 1) ≤ n := by
  have h1 := toE_lt (T := T) (toK_end h.2 hk)
  have h2 := skE_le (T := T) h1.2
  show _ ≤ skE T n (toE T n (psN T n i)) ∧ skE T n (toE T n (psN T n i)) ≤ n
  omega
theorem cdA_app {X : AI} : ∀ {l m : List (Int32 × Int32)} {k : Nat}, cdA X k l → cdA X (k + l.length) m → cdA X k (l ++ m)
  | [], m, k, _, h => h
  | p :: l, m, k, h1, h2 => ⟨h1.1, h1.2.1, cdA_app h1.2.2 (by rw [show k + 1 + l.length = k + (p :: l).length by simp; omega]; exact h2)⟩
theorem cdA_lt {X Y : AI} {q : Nat} (h1 : ∀ b, b < q → Y 124 b = X 124 b) (h2 : ∀ b, b < q → Y 125 b = X 125 b) : ∀ {l : List (Int32 × Int32)} {k : Nat}, k + l.length ≤ q → cdA X k l → cdA Y k l
  | [], _, _, _ => trivial
  | p :: l, k, hk, h => ⟨by rw [h1 k (by simp at hk; omega)]; exact h.1, by rw [h2 k (by simp at hk; omega)]; exact h.2.1, cdA_lt h1 h2 (by simp at hk ⊢; omega) h.2.2⟩
theorem flt_app : ∀ {c d : Cd}, flt (c ++ d) = flt c ++ flt d
  | [], d => rfl
  | p :: c, d => by
    have ih := flt_app (c := c) (d := d)
    show (if p.1 = 5 then (0, p.2) :: (5, 0) :: flt (c ++ d) else p :: flt (c ++ d)) = (if p.1 = 5 then (0, p.2) :: (5, 0) :: flt c else p :: flt c) ++ flt d
    rw [ih]
    split <;> rfl
theorem c_emits (γ : GE) {b c : Bool} {X : AI} {J : AJ} (l : List (Int32 × Int32)) (hO : Out X l) (hl : l.length < 900) (x y : Int32) : Ct γ mX12_emits 0 0 0 [.ref 100, .int x, .int y] (SS b c) X J ((fun r S' I' J' => none = r ∧ (SS b c) = S' ∧ (∃ X', X' = I' ∧ fr qE X X' ∧ Out X' (l ++ [(x, y)])) ∧ J = J')) := by
  have em := hO.1
  have e9 : (900 : Int32) + nI l.length = nI (900 + l.length) := nI_ad 900 l.length
  have c9 : (nI (900 + l.length)).toNatClampNeg = 900 + l.length := nI_clamp (by omega)
  refine ct_of okX12_emits (L := [some (.ref 100), some (.int x), some (.int y)]) (Nat.le_of_ble_eq_true rfl) rfl ?_
  refine r_run okX12_emits 22 (cs := [vp_in (900 + (X 100 36)) 1800, vp_in (900 + (X 100 36)) 1800]) (σ' := (38, [some (.ref 100), some (.int x), some (.int y)], [], (SS b c), (upI (upI (upI X 124 ((900 + (X 100 36)).toNatClampNeg) x) 125 ((900 + (X 100 36)).toNatClampNeg) y) 100 36 ((X 100 36) + 1)), J, 0, 0)) rfl ⟨(by rw [em, e9]; exact vin (by omega) (by decide)), (by rw [em, e9]; exact vin (by omega) (by decide)), trivial⟩ ?_
  simp only [em, e9, c9]
  show Rj _ _ _ _ _ _ (38, [some (.ref 100), some (.int x), some (.int y)], [], (SS b c), (upI (upI (upI X 124 (900 + l.length) x) 125 (900 + l.length) y) 100 36 ((nI l.length) + 1)), J, 0, 0)
  refine r_vret okX12_emits rfl rfl (Nat.le_refl _) (Nat.le_refl _) ?_
  refine ⟨rfl, rfl, ⟨_, rfl, ?_, ?_⟩, rfl⟩
  · intro a z h
    unfold qE at h; simp only [Bool.or_eq_false_iff, Bool.and_eq_false_iff] at h
    show (if a = 100 then (if z = 36 then _ else _) else _) = _
    have h100 : a = 100 → ¬ z = 36 := fun e f => by subst e; subst f; exact absurd h.1 (by decide)
    have h24 : a = 124 → ¬ z = 900 + l.length := fun e f => by subst e; subst f; rcases h.2 with q | q; (· exact absurd q (by decide)); exact absurd (Nat.ble_eq.mpr (show 900 ≤ 900 + l.length by omega)) (by rw [q]; decide)
    have h25 : a = 125 → ¬ z = 900 + l.length := fun e f => by subst e; subst f; rcases h.2 with q | q; (· exact absurd q (by decide)); exact absurd (Nat.ble_eq.mpr (show 900 ≤ 900 + l.length by omega)) (by rw [q]; decide)
    unfold upI
    by_cases a1 : a = 100
    · rw [if_pos a1, if_neg (h100 a1), if_neg (by rw [a1]; decide), if_neg (by rw [a1]; decide)]
    · rw [if_neg a1]
      by_cases a2 : a = 125
      · rw [if_pos a2, if_neg (h25 a2), if_neg (by rw [a2]; decide)]
      · rw [if_neg a2]
        by_cases a3 : a = 124
        · rw [if_pos a3, if_neg (h24 a3)]
        · rw [if_neg a3]
  · refine ⟨?_, ?_⟩
    · show nI l.length + 1 = nI (l ++ [(x, y)]).length; rw [nI_eq1]; simp
    · refine cdA_app (cdA_lt (q := 900 + l.length) (fun z hz => ?_) (fun z hz => ?_) (Nat.le_refl _) hO.2) ⟨?_, ?_, trivial⟩
      · show (if z = 900 + l.length then _ else _) = _; rw [if_neg (by omega)]
      · show (if z = 900 + l.length then _ else _) = _; rw [if_neg (by omega)]; rfl
      · show (if 900 + l.length = 900 + l.length then _ else _) = _; rw [if_pos rfl]
      · show (if 900 + l.length = 900 + l.length then _ else _) = _; rw [if_pos rfl]
theorem c_fails (γ : GE) {b c : Bool} {X : AI} {J : AJ} (k : Int32) : Ct γ mX12_fails 0 0 0 [.ref 100, .int k] (SS b c) X J ((fun r S' I' J' => some (.int (-1)) = r ∧ (SS b c) = S' ∧ (∃ X', X' = I' ∧ fr qF X X' ∧ X' 100 40 = k ∧ X' 100 41 = X 100 25) ∧ J = J')) := by
  refine ct_of okX12_fails (L := [some (.ref 100), some (.int k)]) (Nat.le_of_ble_eq_true rfl) rfl ?_
  refine r_run okX12_fails 8 (cs := []) (σ' := (14, [some (.ref 100), some (.int k)], [.int (-1)], (SS b c), (upI (upI X 100 40 k) 100 41 (X 100 25)), J, 0, 0)) rfl trivial ?_
  refine r_iret okX12_fails rfl rfl rfl (Nat.le_refl _) (Nat.le_refl _) ?_
  refine ⟨rfl, rfl, ⟨_, rfl, ?_, rfl, rfl⟩, rfl⟩
  intro a z h
  unfold qF at h; simp only [Bool.and_eq_false_iff, Bool.or_eq_false_iff] at h
  have h100 : a = 100 → ¬ z = 40 ∧ ¬ z = 41 := fun e => by subst e; rcases h with q | q; (· exact absurd q (by decide)); exact ⟨fun f => absurd q.1 (by rw [f]; decide), fun f => absurd q.2 (by rw [f]; decide)⟩
  unfold upI
  by_cases a1 : a = 100
  · rw [if_pos a1, if_neg (h100 a1).2, if_pos a1, if_neg (h100 a1).1]
  · rw [if_neg a1, if_neg a1]
theorem c_nextT (γ : GE) {b c : Bool} {X : AI} {J : AJ} {T : Nat → Int32} {n i : Nat} (hT : TpOK T n) (hP : PSt T n X i) (hk : ¬ kK T n i = 17) : Ct γ mX12_next 2 0 0 [.ref 100] (SS b c) X J (fun r S' I' J' => none = r ∧ (SS b c) = S' ∧ (∃ X', X' = I' ∧ fr q4 X X' ∧ PSt T n X' (i + 1)) ∧ J = J') := by
  obtain ⟨h1, h2, h3, h4, h5, h6, h7⟩ := hP
  subst h1
  have hp := toE_lt (T := X 118) (toK_end h4.2 hk)
  refine ct_post (fun r S' I' J' h => ?_) (c_next γ n h2 hT.1 hT.2 h3 (toE (X 118) n (psN (X 118) n i)) hp.2 h5)
  obtain ⟨rfl, rfl, ⟨tok, val, rfl, hr⟩, rfl⟩ := h
  refine ⟨rfl, rfl, ⟨_, rfl, ?_, ?_⟩, rfl⟩
  · intro a z h
    unfold q4 at h; simp only [Bool.and_eq_false_iff, Bool.or_eq_false_iff] at h
    unfold r4
    by_cases a1 : a = 100
    · rw [if_pos a1]
      rcases h with q | q
      · rw [a1] at q; exact absurd q (by decide)
      · rw [if_neg (fun f => absurd q.1.1.1 (by rw [f]; decide)), if_neg (fun f => absurd q.1.1.2 (by rw [f]; decide)), if_neg (fun f => absurd q.1.2 (by rw [f]; decide)), if_neg (fun f => absurd q.2 (by rw [f]; decide))]
    · rw [if_neg a1]
  · exact ⟨rfl, h2, h3, ps_s h4 hk, rfl, rfl, hr⟩
theorem toR_sg {K V tok val c : Int32} (h : toR K V tok val) (hc : siB c = true) : (tok = 4 ∧ val = c) ↔ K = c := by
  have hn : ∀ k, k < 19 → ¬ c = nI k := fun k hk e => by
    have q : ∀ k, k < 19 → siB (nI k) = false := by decide
    rw [e, q k hk] at hc; cases hc
  rcases h with ⟨h1, h2⟩ | ⟨h1, h2⟩ | ⟨⟨k, hk, h1⟩, h2, h3⟩ | ⟨h1, h2, h3⟩ | ⟨h1, h2, h3⟩
  · exact ⟨fun q => absurd (h2.symm.trans q.1) (by decide), fun q => absurd (q.symm.trans h1) (hn 17 (by decide))⟩
  · exact ⟨fun q => absurd (h2.symm.trans q.1) (by decide), fun q => absurd (q.symm.trans h1) (hn 18 (by decide))⟩
  · exact ⟨fun q => absurd (h2.symm.trans q.1) (by decide), fun q => absurd (q.symm.trans h1) (hn k (by omega))⟩
  · exact ⟨fun q => absurd (h2.symm.trans q.1) (by decide), fun q => absurd (q.symm.trans h1) (hn 16 (by decide))⟩
  · exact ⟨fun q => h3.symm.trans q.2, fun q => ⟨h2, h3.trans q⟩⟩
theorem toR_wd {K V tok val : Int32} {w : Nat} (h : toR K V tok val) (hw : w < 16) : (tok = 2 ∧ val = nI w) ↔ K = nI w := by
  rcases h with ⟨h1, h2⟩ | ⟨h1, h2⟩ | ⟨⟨k, hk, h1⟩, h2, h3⟩ | ⟨h1, h2, h3⟩ | ⟨h1, h2, h3⟩
  · exact ⟨fun q => absurd (h2.symm.trans q.1) (by decide), fun q => absurd (nI_inj (a := w) (b := 17) (by omega) (by decide) (q.symm.trans h1)) (by omega)⟩
  · exact ⟨fun q => absurd (h2.symm.trans q.1) (by decide), fun q => absurd (nI_inj (a := w) (b := 18) (by omega) (by decide) (q.symm.trans h1)) (by omega)⟩
  · exact ⟨fun q => h3.symm.trans q.2, fun q => ⟨h2, h3.trans q⟩⟩
  · exact ⟨fun q => absurd (h2.symm.trans q.1) (by decide), fun q => absurd (nI_inj (a := w) (b := 16) (by omega) (by decide) (q.symm.trans h1)) (by omega)⟩
  · refine ⟨fun q => absurd (h2.symm.trans q.1) (by decide), fun q => ?_⟩
    have z : ∀ k, k < 16 → siB (nI k) = false := by decide
    rw [q, z w hw] at h1; cases h1
theorem toR_nm {K V tok val : Int32} (h : toR K V tok val) : (tok = 3 ↔ K = 16) ∧ (tok = 3 → val = V) := by
  rcases h with ⟨h1, h2⟩ | ⟨h1, h2⟩ | ⟨⟨k, hk, h1⟩, h2, h3⟩ | ⟨h1, h2, h3⟩ | ⟨h1, h2, h3⟩
  · subst h1 h2; exact ⟨by decide, fun q => absurd q (by decide)⟩
  · subst h1 h2; exact ⟨by decide, fun q => absurd q (by decide)⟩
  · exact ⟨⟨fun q => absurd (h2.symm.trans q) (by decide), fun q => absurd (nI_inj (a := k) (b := 16) (by omega) (by decide) (h1.symm.trans q)) (by omega)⟩, fun q => absurd (h2.symm.trans q) (by decide)⟩
  · exact ⟨⟨fun _ => h1, fun _ => h2⟩, fun _ => h3⟩
  · refine ⟨⟨fun q => absurd (h2.symm.trans q) (by decide), fun q => ?_⟩, fun q => absurd (h2.symm.trans q) (by decide)⟩
    rw [q] at h1; exact absurd h1 (by decide)
theorem toR_w2 {K V tok val : Int32} (h : toR K V tok val) : (tok = 2 ↔ rg 16 K) ∧ (tok = 2 → val = K) ∧ (tok = 0 ↔ K = 17) := by
  have nr : ∀ k, 16 ≤ k → k < 19 → ¬ rg 16 (nI k) := fun k h1 h2 h3 => by
    obtain ⟨z, hz, ez⟩ := h3
    exact absurd (nI_inj (by omega) (by omega) ez) (by omega)
  rcases h with ⟨h1, h2⟩ | ⟨h1, h2⟩ | ⟨⟨k, hk, h1⟩, h2, h3⟩ | ⟨h1, h2, h3⟩ | ⟨h1, h2, h3⟩
  · subst h1 h2; exact ⟨⟨fun q => absurd q (by decide), fun q => absurd q (nr 17 (by decide) (by decide))⟩, fun q => absurd q (by decide), by decide⟩
  · subst h1 h2; exact ⟨⟨fun q => absurd q (by decide), fun q => absurd q (nr 18 (by decide) (by decide))⟩, fun q => absurd q (by decide), by decide⟩
  · exact ⟨⟨fun _ => ⟨k, hk, h1⟩, fun _ => h2⟩, fun _ => h3, fun q => absurd (h2.symm.trans q) (by decide), fun q => absurd (nI_inj (a := k) (b := 17) (by omega) (by decide) (h1.symm.trans q)) (by omega)⟩
  · subst h1 h2; exact ⟨⟨fun q => absurd q (by decide), fun q => absurd q (nr 16 (by decide) (by decide))⟩, fun q => absurd q (by decide), by decide⟩
  · refine ⟨⟨fun q => absurd (h2.symm.trans q) (by decide), fun q => ?_⟩, fun q => absurd (h2.symm.trans q) (by decide), fun q => absurd (h2.symm.trans q) (by decide), fun q => ?_⟩
    · obtain ⟨k, hk, e⟩ := q
      have z : ∀ k, k < 16 → siB (nI k) = false := by decide
      rw [e, z k hk] at h1; cases h1
    · rw [q] at h1; exact absurd h1 (by decide)
theorem c_isSign (γ : GE) {b c : Bool} {X : AI} {J : AJ} {T : Nat → Int32} {n i : Nat} (hP : PSt T n X i) (v : Int32) (hc : siB v = true) : Ct γ mX12_isSign 0 0 0 [.ref 100, .int v] (SS b c) X J (rI (bi (decide (kK T n i = v))) (SS b c) X J) := by
  refine ct_of okX12_isSign (L := [some (.ref 100), some (.int v)]) (Nat.le_of_ble_eq_true rfl) rfl ?_
  refine r_run okX12_isSign 3 (cs := []) (σ' := (5, [some (.ref 100), some (.int v)], [.int 4, .int (X 100 26)], (SS b c), X, J, 0, 0)) rfl trivial ?_
  refine r_icmp okX12_isSign rfl (fun (h5 : ¬ (X 100 26) = (4 : Int32)) => ?_) (fun h50 => ?_)
  · refine r_run okX12_isSign 1 (cs := []) (σ' := (21, [some (.ref 100), some (.int v)], [.int 0], (SS b c), X, J, 0, 0)) rfl trivial ?_
    refine r_iret okX12_isSign rfl rfl (by decide +kernel) (Nat.le_refl _) (Nat.le_refl _) ?_
    refine ⟨?_, rfl, rfl, rfl⟩
    rw [show decide (kK T n i = v) = false from decide_eq_false (fun q => h5 ((toR_sg hP.2.2.2.2.2.2 hc).mpr q).1)]; rfl
  · have h5 : (X 100 26) = (4 : Int32) := Classical.not_not.mp h50
    refine r_run okX12_isSign 3 (cs := []) (σ' := (13, [some (.ref 100), some (.int v)], [.int v, .int (X 100 27)], (SS b c), X, J, 0, 0)) rfl trivial ?_
    refine r_icmp okX12_isSign rfl (fun (h13 : ¬ (X 100 27) = v) => ?_) (fun h130 => ?_)
    · refine r_run okX12_isSign 1 (cs := []) (σ' := (21, [some (.ref 100), some (.int v)], [.int 0], (SS b c), X, J, 0, 0)) rfl trivial ?_
      refine r_iret okX12_isSign rfl rfl (by decide +kernel) (Nat.le_refl _) (Nat.le_refl _) ?_
      refine ⟨?_, rfl, rfl, rfl⟩
      rw [show decide (kK T n i = v) = false from decide_eq_false (fun q => h13 ((toR_sg hP.2.2.2.2.2.2 hc).mpr q).2)]; rfl
    · have h13 : (X 100 27) = v := Classical.not_not.mp h130
      refine r_run okX12_isSign 2 (cs := []) (σ' := (21, [some (.ref 100), some (.int v)], [.int 1], (SS b c), X, J, 0, 0)) rfl trivial ?_
      refine r_iret okX12_isSign rfl rfl (by decide +kernel) (Nat.le_refl _) (Nat.le_refl _) ?_
      refine ⟨?_, rfl, rfl, rfl⟩
      rw [show decide (kK T n i = v) = true from decide_eq_true ((toR_sg hP.2.2.2.2.2.2 hc).mp ⟨h5, h13⟩)]; rfl
theorem c_isWord (γ : GE) {b c : Bool} {X : AI} {J : AJ} {T : Nat → Int32} {n i : Nat} (hP : PSt T n X i) (v : Nat) (hc : v < 16) : Ct γ mX12_isWord 0 0 0 [.ref 100, .int (nI v)] (SS b c) X J (rI (bi (decide (kK T n i = (nI v)))) (SS b c) X J) := by
  refine ct_of okX12_isWord (L := [some (.ref 100), some (.int (nI v))]) (Nat.le_of_ble_eq_true rfl) rfl ?_
  refine r_run okX12_isWord 3 (cs := []) (σ' := (5, [some (.ref 100), some (.int (nI v))], [.int 2, .int (X 100 26)], (SS b c), X, J, 0, 0)) rfl trivial ?_
  refine r_icmp okX12_isWord rfl (fun (h5 : ¬ (X 100 26) = (2 : Int32)) => ?_) (fun h50 => ?_)
  · refine r_run okX12_isWord 1 (cs := []) (σ' := (21, [some (.ref 100), some (.int (nI v))], [.int 0], (SS b c), X, J, 0, 0)) rfl trivial ?_
    refine r_iret okX12_isWord rfl rfl (by decide +kernel) (Nat.le_refl _) (Nat.le_refl _) ?_
    refine ⟨?_, rfl, rfl, rfl⟩
    rw [show decide (kK T n i = (nI v)) = false from decide_eq_false (fun q => h5 ((toR_wd hP.2.2.2.2.2.2 hc).mpr q).1)]; rfl
  · have h5 : (X 100 26) = (2 : Int32) := Classical.not_not.mp h50
    refine r_run okX12_isWord 3 (cs := []) (σ' := (13, [some (.ref 100), some (.int (nI v))], [.int (nI v), .int (X 100 27)], (SS b c), X, J, 0, 0)) rfl trivial ?_
    refine r_icmp okX12_isWord rfl (fun (h13 : ¬ (X 100 27) = (nI v)) => ?_) (fun h130 => ?_)
    · refine r_run okX12_isWord 1 (cs := []) (σ' := (21, [some (.ref 100), some (.int (nI v))], [.int 0], (SS b c), X, J, 0, 0)) rfl trivial ?_
      refine r_iret okX12_isWord rfl rfl (by decide +kernel) (Nat.le_refl _) (Nat.le_refl _) ?_
      refine ⟨?_, rfl, rfl, rfl⟩
      rw [show decide (kK T n i = (nI v)) = false from decide_eq_false (fun q => h13 ((toR_wd hP.2.2.2.2.2.2 hc).mpr q).2)]; rfl
    · have h13 : (X 100 27) = (nI v) := Classical.not_not.mp h130
      refine r_run okX12_isWord 2 (cs := []) (σ' := (21, [some (.ref 100), some (.int (nI v))], [.int 1], (SS b c), X, J, 0, 0)) rfl trivial ?_
      refine r_iret okX12_isWord rfl rfl (by decide +kernel) (Nat.le_refl _) (Nat.le_refl _) ?_
      refine ⟨?_, rfl, rfl, rfl⟩
      rw [show decide (kK T n i = (nI v)) = true from decide_eq_true ((toR_wd hP.2.2.2.2.2.2 hc).mp ⟨h5, h13⟩)]; rfl
