/-! ===== the best box: the office's is the reference's ===== -/
theorem sM_mono2 {f g : Nat → Nat} {p : Nat → Bool} : ∀ n, (∀ i, i < n → p i = true → f i ≤ g i) → sM f p n ≤ sM g p n
  | 0, _ => Nat.le_refl _
  | n + 1, h => by
    have h1 := sM_mono2 (p := p) n (fun i hi => h i (by omega))
    unfold sM
    split
    · rename_i q; have := h n (by omega) q; omega
    · exact h1
theorem mvS_lt {m : Int32} {x d : Nat} (hx : x < 96) (hd : d < 9) (h : mvS m x d = true) : mvT x d < 96 := by
  unfold mvS at h
  rw [Bool.and_eq_true] at h
  exact ((mv_dec x hx d hd).2 h.2).2
theorem wyM_mono2 {m : Int32} {al al' : Nat → Bool} (h : ∀ x, x < 96 → al x = true → al' x = true) : ∀ k x, x < 96 → wyM m al k x ≤ wyM m al' k x
  | 0, x, hx => by
    unfold wyM
    cases q : al x with
    | false => simp
    | true => rw [h x hx q]; exact Nat.le_refl _
  | k + 1, x, hx => by
    unfold wyM
    cases q : al x with
    | false => simp
    | true => rw [h x hx q]; exact sM_mono2 9 (fun d hd hp => wyM_mono2 h k _ (mvS_lt hx hd hp))
theorem ptM_mono2 {I : AI} {z z' : Int32} {n : Nat} {F : Nat → Bool} (h : ∀ x, x < 96 → in0 I z x = true → in0 I z' x = true) : ptM I z n F ≤ ptM I z' n F := sM_mono2 96 (fun x hx _ => wyM_mono2 h n x hx)
theorem in0_tb {I : AI} (hM : MLand I) {x s : Nat} (hx : x < 96) (hs : s < 256) : in0 I (nI s) x = (decide (I 102 x = 0) || s.testBit (nv (I 101 x))) := by
  obtain ⟨k, hk, ek⟩ := (hM x hx).1
  unfold in0
  rw [ek, nv_nI (by omega), on_tb s hs k hk]
theorem ok_iff {I : AI} {n q s : Nat} {F : Nat → Bool} (hn : n ≤ 12) (hq : q ≤ 1000) (hle : ptM I (nI s) n F ≤ ptM I 255 n F) : bxOK (fun z => pthV I z n F) (nI q) s = true ↔ (ptM I 255 n F - ptM I (nI s) n F) * 1000 ≤ q * ptM I 255 n F := by
  have hT := ptM_le (I := I) (z := 255) (F := F) hn
  unfold bxOK
  rw [decide_eq_true_eq, lg_cmp_le]
  simp only [pthV_M]
  rw [lN_sub hle, show (1000 : Int64) = lN 1000 from rfl, lN_mul, nI_l (by omega), lN_mul]
  generalize ptM I 255 n F = T at *
  generalize ptM I (nI s) n F = p at *
  have h1 : q * T ≤ 1000 * T := Nat.mul_le_mul_right T hq
  exact pk_lLE (by omega) (by omega)
theorem le_255 {I : AI} (hM : MLand I) {z : Int32} {n : Nat} {F : Nat → Bool} : ptM I z n F ≤ ptM I 255 n F := ptM_mono2 (fun x hx _ => in0_255 hM hx)
theorem ok_mono {I : AI} (hM : MLand I) {n q : Nat} {F : Nat → Bool} (hn : n ≤ 12) (hq : q ≤ 1000) (s i : Nat) (hs : s < 256) (hi : i < 8) (h : bxOK (fun z => pthV I z n F) (nI q) s = true) : bxOK (fun z => pthV I z n F) (nI q) (s ||| 2 ^ i) = true := by
  have hl := (tb_and s hs i hi).2.2
  have hm : ptM I (nI s) n F ≤ ptM I (nI (s ||| 2 ^ i)) n F := ptM_mono2 (fun x hx hp => by
    rw [in0_tb hM hx hs] at hp
    rw [in0_tb hM hx hl, Nat.testBit_or]
    cases a : decide (I 102 x = 0) with
    | true => rfl
    | false => rw [a, Bool.false_or] at hp; rw [hp]; rfl)
  rw [ok_iff hn hq (le_255 hM)] at h ⊢
  refine Nat.le_trans (Nat.mul_le_mul_right 1000 ?_) h
  omega
/-! cells that no path comes to -/
theorem sumW_pf {f : Nat → Int64} {p : Nat → Bool} : ∀ n, (∀ i, i < n → p i = false) → sumW f p n = 0
  | 0, _ => rfl
  | n + 1, h => by unfold sumW; rw [h n (by omega), sumW_pf n (fun i hi => h i (by omega))]; rfl
theorem fw_rch {m : Int32} {F al : Nat → Bool} : ∀ k y, rchN m F k y = false → fwN m F al k y = 0
  | 0, y, h => by
    have h : F y = false := h
    unfold fwN; rw [h]; rfl
  | k + 1, y, h => by
    have h : fromN m (rchN m F k) 96 y = false := h
    unfold fwN
    have e : stN m (fwN m F al k) y = 0 := by
      unfold stN
      have e1 : ∀ x, x < 96 → sumW (fun _ => fwN m F al k x) (fun d => mvS m x d && decide (mvT x d = y)) 9 = 0 := by
        intro x hx
        cases q : rchN m F k x with
        | false => rw [fw_rch k x q]; exact sumW_0 9
        | true =>
          refine sumW_pf 9 (fun d hd => ?_)
          cases z : (mvS m x d && decide (mvT x d = y)) with
          | false => rfl
          | true =>
            rw [Bool.and_eq_true] at z
            have : fromN m (rchN m F k) 96 y = true := by
              unfold fromN
              rw [List.any_eq_true]
              refine ⟨x, List.mem_range.mpr hx, ?_⟩
              rw [q, Bool.true_and]
              unfold goesN
              rw [List.any_eq_true]
              exact ⟨d, List.mem_range.mpr hd, by rw [z.2, Bool.and_true]; exact z.1⟩
            rw [h] at this; cases this
      have e2 := sumT_cg (n := 96) e1
      rw [sumT_0] at e2
      exact e2
    rw [e]; split <;> rfl
theorem met_rch {m : Int32} {F : Nat → Bool} {k y : Nat} : ∀ n, k ≤ n → rchN m F k y = true → metN m F n y = true
  | 0, h, hr => by rw [Nat.le_zero.mp h] at hr; exact hr
  | n + 1, h, hr => by
    unfold metN
    by_cases e : k = n + 1
    · rw [← e, hr, Bool.or_true]
    · rw [met_rch n (by omega) hr, Bool.true_or]
theorem fw_eq {m : Int32} {F al al' : Nat → Bool} {n : Nat} (h : ∀ y, y < 96 → metN m F n y = true → al y = al' y) : ∀ k y, k ≤ n → y < 96 → fwN m F al k y = fwN m F al' k y
  | 0, y, hk, hy => by
    cases q : rchN m F 0 y with
    | false => rw [fw_rch 0 y q, fw_rch 0 y q]
    | true => unfold fwN; rw [h y hy (met_rch n hk q)]
  | k + 1, y, hk, hy => by
    cases q : rchN m F (k + 1) y with
    | false => rw [fw_rch (k + 1) y q, fw_rch (k + 1) y q]
    | true => unfold fwN; rw [h y hy (met_rch n hk q), stN_cg (fun x hx => fw_eq h k x (by omega) hx)]
def UU (I : AI) (n : Nat) (F : Nat → Bool) : Nat := uN8 I (metN (I 100 6) F n) 96
theorem pth_U {I : AI} (hM : MLand I) {n s : Nat} {F : Nat → Bool} (hs : s < 256) : pthV I (nI s) n F = pthV I (nI (s &&& UU I n F)) n F := by
  have hl : s &&& UU I n F < 256 := Nat.lt_of_le_of_lt Nat.and_le_left hs
  rw [← walk_eq (fun x _ => rfl), ← walk_eq (fun x _ => rfl)]
  refine sumT_cg fun y hy => fw_eq (n := n) (fun x hx hm => ?_) n y (Nat.le_refl _) hy
  rw [in0_tb hM hx hs, in0_tb hM hx hl, Nat.testBit_and]
  cases a : decide (I 102 x = 0) with
  | true => rfl
  | false =>
    have hp : 0 < I 102 x := by
      obtain ⟨k, hk, ek⟩ := (hM x hx).2.1
      have : ¬ k = 0 := fun z => by rw [ek, z] at a; exact absurd a (by decide)
      rw [ek]; exact nI_lt (a := 0) (by omega) (by omega)
    have := uN8_tb (f := metN (I 100 6) F n) hM 96 (Nat.le_refl _) hx hp hm
    rw [show (UU I n F).testBit (nv (I 101 x)) = true from this, Bool.and_true]
theorem UU_lt {I : AI} (hM : MLand I) {n : Nat} {F : Nat → Bool} : UU I n F < 256 := (uN8_cw hM 96 (Nat.le_refl _)).2
theorem UU_cw {I : AI} (hM : MLand I) {n : Nat} {F : Nat → Bool} : cwp I (metN (I 100 6) F n) 96 = nI (UU I n F) := (uN8_cw hM 96 (Nat.le_refl _)).1
theorem UU_in {I : AI} (hM : MLand I) {n : Nat} {F : Nat → Bool} : inU (UU I n F) (UU I n F) = true := by
  rw [inU_iff (UU_lt hM) (UU_lt hM), Nat.or_self]
theorem ok_U {I : AI} (hM : MLand I) {n s : Nat} {F : Nat → Bool} {part : Int32} (hs : s < 256) : bxOK (fun z => pthV I z n F) part s = bxOK (fun z => pthV I z n F) part (s &&& UU I n F) := by
  have e := pth_U (n := n) (F := F) hM hs
  exact congrArg (fun p => decide (lg_cmp ((pthV I 255 n F - p) * 1000) (part.toInt64 * pthV I 255 n F) ≤ 0)) e
theorem ok_255 {I : AI} (hM : MLand I) {n q : Nat} {F : Nat → Bool} (hn : n ≤ 12) (hq : q ≤ 1000) : bxOK (fun z => pthV I z n F) (nI q) 255 = true := by
  rw [ok_iff hn hq (le_255 hM)]
  show (ptM I 255 n F - ptM I 255 n F) * 1000 ≤ _
  rw [Nat.sub_self, Nat.zero_mul]; exact Nat.zero_le _
theorem UU_ok {I : AI} (hM : MLand I) {n q : Nat} {F : Nat → Bool} (hn : n ≤ 12) (hq : q ≤ 1000) : bxOK (fun z => pthV I z n F) (nI q) (UU I n F) = true := by
  have h := (ok_U (n := n) (F := F) (part := nI q) (s := 255) hM (by decide)).symm.trans (ok_255 (F := F) hM hn hq)
  have : 255 &&& UU I n F = UU I n F := by
    rw [Nat.and_comm, show 255 = 2 ^ 8 - 1 from rfl, Nat.and_two_pow_sub_one_eq_mod]
    exact Nat.mod_eq_of_lt (UU_lt hM)
  rw [this] at h; exact h
/-- it is the best of all -/
def Bst (P : Int32 → Int64) (part : Int32) (v : Nat → Nat) (t : Nat) : Prop := t < 256 ∧ bxOK P part t = true ∧ ∀ s, s < 256 → bxOK P part s = true → betB v s t = false
theorem bst_uq {P : Int32 → Int64} {part : Int32} {v : Nat → Nat} {a t : Nat} (h1 : Bst P part v a) (h2 : Bst P part v t) : a = t := by
  have q1 := h1.2.2 t h2.1 h2.2.1
  have q2 := h2.2.2 a h1.1 h1.2.1
  have r1 : ¬ betB v t a = true := by rw [q1]; decide
  have r2 : ¬ betB v a t = true := by rw [q2]; decide
  rw [bet_iff] at r1 r2
  omega
theorem bb_bst {I : AI} (hM : MLand I) {n t : Nat} {F : Nat → Bool} {part : Int32} (h : BBI (fun z => pthV I z n F) part (vM I) (UU I n F) 0 t) : Bst (fun z => pthV I z n F) part (vM I) t := by
  refine ⟨h.1, h.2.2.1, fun s hs ho => ?_⟩
  have hl : s &&& UU I n F < 256 := Nat.lt_of_le_of_lt Nat.and_le_left hs
  have h1 := h.2.2.2 (s &&& UU I n F) (Nat.zero_le _) hl (inU_and (UU_lt hM) hs) (by rw [← ok_U hM hs]; exact ho)
  have v1 : vM I (s &&& UU I n F) ≤ vM I s := pM_mono (fun x hx => and_tb hx) 96
  have p1 : popN (s &&& UU I n F) ≤ popN s := cnt_mono (fun i hi => and_tb hi) 8
  have s1 : s &&& UU I n F ≤ s := Nat.and_le_left
  cases q : betB (vM I) s t with
  | false => rfl
  | true =>
    have := bet_iff.mp q
    have h2 : betB (vM I) (s &&& UU I n F) t = true := bet_iff.mpr (by omega)
    rw [h1] at h2; cases h2
def bxI (I : AI) (P : Int32 → Int64) (part : Int32) (s : Nat) (best : Option Nat) (least : Int32) : Prop := match best with
  | none => ∀ r, r < s → bxOK P part r = false
  | some q => q < s ∧ bxOK P part q = true ∧ least = pplN I (nI q) 96 ∧ ∀ r, r < s → bxOK P part r = true → betB (vM I) r q = false
theorem boxS_in {I : AI} (hM : MLand I) {P : Int32 → Int64} {part : Int32} : ∀ (j s : Nat) (best : Option Nat) (least : Int32), s + j = 256 → bxI I P part s best least → bxI I P part 256 (boxS I P part j s best least).1 (boxS I P part j s best least).2
  | 0, s, best, least, hs, h => by
    have : s = 256 := by omega
    subst this; exact h
  | j + 1, s, best, least, hs, h => by
    have vs : pplN I (nI s) 96 = nI (vM I s) := ppl_M hM (by omega) 96 (Nat.le_refl _)
    have bs : vM I s ≤ 1000 * 96 := pM_le hM 96 (Nat.le_refl _)
    unfold boxS
    cases best with
    | none =>
      rw [if_neg (show ¬ bxSkip I s none least = true from fun z => by cases z)]
      by_cases ho : bxOK P part s = true
      · rw [if_pos ho]
        refine boxS_in hM j (s + 1) _ _ (by omega) ⟨by omega, ho, rfl, fun r hr hk => ?_⟩
        by_cases e : r = s
        · rw [e]; unfold betB; simp
        · rw [h r (by omega)] at hk; cases hk
      · rw [if_neg ho]
        refine boxS_in hM j (s + 1) _ _ (by omega) (fun r hr => ?_)
        by_cases e : r = s
        · rw [e]; exact Bool.eq_false_iff.mpr ho
        · exact h r (by omega)
    | some q =>
      obtain ⟨h1, h2, h3, h4⟩ := h
      have vq : pplN I (nI q) 96 = nI (vM I q) := ppl_M hM (by omega) 96 (Nat.le_refl _)
      have bq : vM I q ≤ 1000 * 96 := pM_le hM 96 (Nat.le_refl _)
      by_cases hk : bxSkip I s (some q) least = true
      · rw [if_pos hk]
        refine boxS_in hM j (s + 1) _ _ (by omega) ⟨by omega, h2, h3, fun r hr hr2 => ?_⟩
        by_cases e : r = s
        · subst e
          unfold bxSkip at hk
          rw [h3, vs, vq] at hk
          simp only [Bool.or_eq_true, Bool.and_eq_true, decide_eq_true_eq] at hk
          cases z : betB (vM I) r q with
          | false => rfl
          | true =>
            have z := bet_iff.mp z
            rcases hk with hk | ⟨hk1, hk2⟩
            · have := Nat.lt_of_not_le fun w => absurd hk (nI_nlt w (by omega)); omega
            · have := nI_inj (by omega) (by omega) hk1; omega
        · exact h4 r (by omega) hr2
      · rw [if_neg hk]
        by_cases ho : bxOK P part s = true
        · rw [if_pos ho]
          have hb : betB (vM I) s q = true := by
            unfold bxSkip at hk
            rw [h3, vs, vq] at hk
            simp only [Bool.or_eq_true, Bool.and_eq_true, decide_eq_true_eq, not_or, not_and] at hk
            refine bet_iff.mpr ?_
            have k1 : ¬ vM I q < vM I s := fun w => hk.1 (nI_lt w (by omega))
            have k2 : vM I s = vM I q → ¬ popN q ≤ popN s := fun w => hk.2 (by rw [w])
            omega
          refine boxS_in hM j (s + 1) _ _ (by omega) ⟨by omega, ho, rfl, fun r hr hr2 => ?_⟩
          by_cases e : r = s
          · rw [e]; unfold betB; simp
          · exact betB_tr (h4 r (by omega) hr2) hb
        · rw [if_neg ho]
          refine boxS_in hM j (s + 1) _ _ (by omega) ⟨by omega, h2, h3, fun r hr hr2 => ?_⟩
          by_cases e : r = s
          · rw [e] at hr2; exact absurd hr2 ho
          · exact h4 r (by omega) hr2
theorem box_eq {I : AI} (hM : MLand I) {n t q : Nat} {F : Nat → Bool} (hn : n ≤ 12) (hq : q ≤ 1000) (h : BBI (fun z => pthV I z n F) (nI q) (vM I) (UU I n F) 0 t) : boxS I (fun z => pthV I z n F) (nI q) 256 0 none 0 = (some t, pplN I (nI t) 96) := by
  have hi := boxS_in hM (P := fun z => pthV I z n F) (part := nI q) 256 0 none 0 (by omega) (fun r hr => absurd hr (Nat.not_lt_zero r))
  have hb := bb_bst hM h
  generalize boxS I (fun z => pthV I z n F) (nI q) 256 0 none 0 = R at hi
  obtain ⟨a, l⟩ := R
  cases a with
  | none =>
    have := hi 255 (by decide)
    rw [ok_255 hM hn hq] at this; cases this
  | some a =>
    obtain ⟨h1, h2, h3, h4⟩ := hi
    have e : a = t := bst_uq ⟨h1, h2, fun s hs ho => h4 s hs ho⟩ hb
    have h3 : l = pplN I (nI a) 96 := h3
    rw [h3, e]
