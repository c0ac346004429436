/-! ===== the best box: people, useful counties, paths that are the same, the least one ===== -/
theorem on_tb : ∀ s, s < 256 → ∀ k, k < 8 → decide ((nI s >>> (nI k &&& 31)) &&& 1 = 1) = s.testBit k := by decide +kernel
def pM (I : AI) (p : Nat → Bool) : Nat → Nat
  | 0 => 0
  | n + 1 => if p n then pM I p n + nv (I 102 n) else pM I p n
theorem pM_le {I : AI} {p : Nat → Bool} (hM : MLand I) : ∀ n, n ≤ 96 → pM I p n ≤ 1000 * n
  | 0, _ => Nat.zero_le _
  | n + 1, h => by
    have ih := pM_le (p := p) hM n (by omega)
    have := (rg_nv (hM n (by omega)).2.1 (by decide)).1
    unfold pM; split <;> omega
/-- the people of a box -/
def vM (I : AI) (s : Nat) : Nat := pM I (fun x => s.testBit (nv (I 101 x))) 96
theorem ppl_M {I : AI} (hM : MLand I) {s : Nat} (hs : s < 256) : ∀ n, n ≤ 96 → pplN I (nI s) n = nI (pM I (fun x => s.testBit (nv (I 101 x))) n)
  | 0, _ => rfl
  | n + 1, h => by
    obtain ⟨k, hk, ek⟩ := (hM n (by omega)).1
    have e := on_tb s hs k hk
    have hp := (rg_nv (hM n (by omega)).2.1 (by decide)).2
    unfold pplN pM
    rw [ppl_M hM hs n (by omega), ek, nv_nI (by omega), ← e]
    by_cases q : (nI s >>> (nI k &&& 31)) &&& 1 = 1
    · rw [if_pos q, if_pos (decide_eq_true q)]
      conv => lhs; rw [hp]
      rw [nI_add]
    · rw [if_neg q, if_neg (by rw [decide_eq_false q]; decide)]
def cwM (I : AI) (k n : Nat) : Nat := pM I (fun x => decide (nv (I 101 x) = k)) n
def s8 (f : Nat → Nat) (s : Nat) : Nat := (if s.testBit 0 then f 0 else 0) + (if s.testBit 1 then f 1 else 0) + (if s.testBit 2 then f 2 else 0) + (if s.testBit 3 then f 3 else 0) + (if s.testBit 4 then f 4 else 0) + (if s.testBit 5 then f 5 else 0) + (if s.testBit 6 then f 6 else 0) + (if s.testBit 7 then f 7 else 0)
theorem s8_M {I : AI} (hM : MLand I) {s : Nat} : ∀ n, n ≤ 96 → s8 (fun k => cwM I k n) s = pM I (fun x => s.testBit (nv (I 101 x))) n
  | 0, _ => by simp [s8, cwM, pM]
  | n + 1, h => by
    have ih := s8_M hM (s := s) n (by omega)
    obtain ⟨k, hk, ek⟩ := (hM n (by omega)).1
    have e : ∀ j, cwM I j (n + 1) = if k = j then cwM I j n + nv (I 102 n) else cwM I j n := fun j => by
      unfold cwM
      show (if decide (nv (I 101 n) = j) = true then _ else _) = _
      rw [ek, nv_nI (by omega)]
      by_cases q : k = j <;> simp [q]
    unfold s8 at ih ⊢
    simp only at ih ⊢
    rw [e 0, e 1, e 2, e 3, e 4, e 5, e 6, e 7]
    show _ = (if s.testBit (nv (I 101 n)) = true then _ else _)
    rw [ek, nv_nI (by omega), ← ih]
    have hk8 : k = 0 ∨ k = 1 ∨ k = 2 ∨ k = 3 ∨ k = 4 ∨ k = 5 ∨ k = 6 ∨ k = 7 := by omega
    clear ek ih e
    generalize nv (I 102 n) = p
    rcases hk8 with rfl | rfl | rfl | rfl | rfl | rfl | rfl | rfl
    · generalize s.testBit 0 = tt
      cases tt
      · simp
      · simp; omega
    · generalize s.testBit 1 = tt
      cases tt
      · simp
      · simp; omega
    · generalize s.testBit 2 = tt
      cases tt
      · simp
      · simp; omega
    · generalize s.testBit 3 = tt
      cases tt
      · simp
      · simp; omega
    · generalize s.testBit 4 = tt
      cases tt
      · simp
      · simp; omega
    · generalize s.testBit 5 = tt
      cases tt
      · simp
      · simp; omega
    · generalize s.testBit 6 = tt
      cases tt
      · simp
      · simp; omega
    · generalize s.testBit 7 = tt
      cases tt
      · simp
      · simp; omega
/-- what the office keeps of the counties -/
def OCr (I : AI) : Prop := ∀ k, k < 8 → I 6 k = nI (cwM I k 96)
theorem smB_8 {I : AI} {s : Nat} (hs : s < 256) (hC : OCr I) : smB (I 6) (onB (nI s)) 8 = nI (s8 (fun k => cwM I k 96) s) := by
  have b : ∀ k, k < 8 → onB (nI s) k = s.testBit k := fun k hk => on_tb s hs k hk
  have st : ∀ n a, n < 8 → smB (I 6) (onB (nI s)) n = nI a → smB (I 6) (onB (nI s)) (n + 1) = nI (a + (if s.testBit n then cwM I n 96 else 0)) := fun n a hn ha => by
    show (if onB (nI s) n then _ else _) = _
    rw [b n hn, ha, hC n hn]
    split
    · rw [nI_add]
    · rw [Nat.add_zero]
  have h0 : smB (I 6) (onB (nI s)) 0 = nI 0 := rfl
  have h := st 7 _ (by omega) (st 6 _ (by omega) (st 5 _ (by omega) (st 4 _ (by omega) (st 3 _ (by omega) (st 2 _ (by omega) (st 1 _ (by omega) (st 0 _ (by omega) h0)))))))
  rw [h, Nat.zero_add]; rfl
theorem VP_of {I : AI} (hM : MLand I) (hC : OCr I) : VP I (vM I) := fun s hs => by
  refine ⟨by rw [smB_8 hs hC, s8_M hM 96 (Nat.le_refl _)]; rfl, ?_⟩
  have := pM_le (p := fun x => s.testBit (nv (I 101 x))) hM 96 (Nat.le_refl _)
  unfold vM; omega
/-! useful counties -/
def uN8 (I : AI) (f : Nat → Bool) : Nat → Nat
  | 0 => 0
  | n + 1 => if decide (0 < I 102 n) && f n then uN8 I f n ||| 2 ^ nv (I 101 n) else uN8 I f n
theorem uN8_cw {I : AI} {f : Nat → Bool} (hM : MLand I) : ∀ n, n ≤ 96 → cwp I f n = nI (uN8 I f n) ∧ uN8 I f n < 256
  | 0, _ => ⟨rfl, by show 0 < 256; decide⟩
  | n + 1, h => by
    obtain ⟨e, hl⟩ := uN8_cw (f := f) hM n (by omega)
    obtain ⟨k, hk, ek⟩ := (hM n (by omega)).1
    have t := tb_and _ hl k hk
    unfold cwp uN8
    by_cases q : (decide (0 < I 102 n) && f n) = true
    · rw [if_pos q, if_pos q, e, ek, nv_nI (by omega)]; exact ⟨t.2.1, t.2.2⟩
    · rw [if_neg q, if_neg q]; exact ⟨e, hl⟩
theorem uN8_tb {I : AI} {f : Nat → Bool} (hM : MLand I) {x : Nat} : ∀ n, n ≤ 96 → x < n → 0 < I 102 x → f x = true → (uN8 I f n).testBit (nv (I 101 x)) = true
  | 0, _, h, _, _ => absurd h (Nat.not_lt_zero x)
  | n + 1, hn, h, hp, hf => by
    unfold uN8
    by_cases e : x = n
    · subst e
      rw [if_pos (by rw [hf, decide_eq_true hp]; rfl), Nat.testBit_or, Nat.testBit_two_pow_self, Bool.or_true]
    · have ih := uN8_tb (f := f) hM n (by omega) (by omega) hp hf
      split
      · rw [Nat.testBit_or, ih, Bool.true_or]
      · exact ih
/-! sets within others -/
theorem and_not {x y : Int32} : x &&& (y ^^^ -1) = 0 ↔ x ||| y = y := by
  have m1 : ∀ i, i < 32 → (-1 : Int32).toBitVec.getLsbD i = true := by decide
  constructor
  · intro h
    apply Int32.toBitVec_inj.mp
    apply BitVec.eq_of_getLsbD_eq
    intro i hi
    have t := congrArg (fun z : Int32 => z.toBitVec.getLsbD i) h
    simp only [Int32.toBitVec_and, Int32.toBitVec_xor, BitVec.getLsbD_and, BitVec.getLsbD_xor, m1 i hi] at t
    rw [show (0 : Int32).toBitVec = 0#32 from rfl, BitVec.getLsbD_zero] at t
    rw [Int32.toBitVec_or, BitVec.getLsbD_or]
    cases a : x.toBitVec.getLsbD i <;> cases d : y.toBitVec.getLsbD i <;> simp_all
  · intro h
    apply Int32.toBitVec_inj.mp
    apply BitVec.eq_of_getLsbD_eq
    intro i hi
    have t := congrArg (fun z : Int32 => z.toBitVec.getLsbD i) h
    simp only [Int32.toBitVec_or, BitVec.getLsbD_or] at t
    rw [Int32.toBitVec_and, Int32.toBitVec_xor, BitVec.getLsbD_and, BitVec.getLsbD_xor, m1 i hi, show (0 : Int32).toBitVec = 0#32 from rfl, BitVec.getLsbD_zero]
    cases a : x.toBitVec.getLsbD i <;> cases d : y.toBitVec.getLsbD i <;> simp_all
theorem or_nI (a d : Nat) : nI a ||| nI d = nI (a ||| d) := by
  apply Int32.toBitVec_inj.1
  rw [Int32.toBitVec_or]
  show BitVec.ofNat 32 a ||| BitVec.ofNat 32 d = BitVec.ofNat 32 (a ||| d)
  exact (BitVec.ofNat_or ..).symm
theorem inU_iff {U s : Nat} (hU : U < 256) (hs : s < 256) : inU U s = true ↔ s ||| U = U := by
  unfold inU
  rw [decide_eq_true_eq, and_not, or_nI]
  have hl : s ||| U < 2 ^ 8 := Nat.or_lt_two_pow (by omega) (by omega)
  exact ⟨fun h => nI_inj (by omega) (by omega) h, fun h => by rw [h]⟩
theorem inU_and {U s : Nat} (hU : U < 256) (hs : s < 256) : inU U (s &&& U) = true := by
  have hl : s &&& U < 2 ^ 8 := Nat.and_lt_two_pow s (by omega)
  rw [inU_iff hU (by omega)]
  apply Nat.eq_of_testBit_eq
  intro i
  rw [Nat.testBit_or, Nat.testBit_and]
  cases s.testBit i <;> cases U.testBit i <;> rfl
theorem cnt_mono {f g : Nat → Bool} (h : ∀ i, f i = true → g i = true) : ∀ n, cnt f n ≤ cnt g n
  | 0 => Nat.le_refl _
  | n + 1 => by
    have := cnt_mono h n
    unfold cnt
    cases q : f n with
    | false => simp; omega
    | true => rw [h n q]; simp; omega
theorem pM_mono {I : AI} {p q : Nat → Bool} (h : ∀ x, p x = true → q x = true) : ∀ n, pM I p n ≤ pM I q n
  | 0 => Nat.le_refl _
  | n + 1 => by
    have := pM_mono (I := I) h n
    unfold pM
    cases e : p n with
    | false => simp; split <;> omega
    | true => rw [h n e]; simp; omega
theorem and_tb {U s k : Nat} (h : (s &&& U).testBit k = true) : s.testBit k = true := by
  rw [Nat.testBit_and, Bool.and_eq_true] at h; exact h.1
/-! paths as numbers -/
def sM (f : Nat → Nat) (p : Nat → Bool) : Nat → Nat
  | 0 => 0
  | n + 1 => if p n then sM f p n + f n else sM f p n
theorem sM_lN {f : Nat → Nat} {p : Nat → Bool} : ∀ n, sumW (fun i => lN (f i)) p n = lN (sM f p n)
  | 0 => rfl
  | n + 1 => by
    unfold sumW sM
    rw [sM_lN n]
    split
    · rw [lN_add]
    · rfl
theorem sM_le {f : Nat → Nat} {p : Nat → Bool} {B : Nat} (h : ∀ i, f i ≤ B) : ∀ n, sM f p n ≤ n * B
  | 0 => Nat.zero_le _
  | n + 1 => by
    have := sM_le (p := p) h n
    have := h n
    unfold sM
    rw [Nat.succ_mul]
    split <;> omega
theorem sM_mono {f g : Nat → Nat} {p : Nat → Bool} (h : ∀ i, f i ≤ g i) : ∀ n, sM f p n ≤ sM g p n
  | 0 => Nat.le_refl _
  | n + 1 => by
    have := sM_mono (p := p) h n
    have := h n
    unfold sM
    split <;> omega
def wyM (m : Int32) (al : Nat → Bool) : Nat → Nat → Nat
  | 0, x => if al x then 1 else 0
  | k + 1, x => if al x then sM (fun d => wyM m al k (mvT x d)) (mvS m x) 9 else 0
theorem wyG_M {m : Int32} {al : Nat → Bool} : ∀ k x, wyG m al k x = lN (wyM m al k x)
  | 0, x => by unfold wyG wyM; split <;> rfl
  | k + 1, x => by
    unfold wyG wyM
    rw [show (fun d => wyG m al k (mvT x d)) = fun d => lN (wyM m al k (mvT x d)) from funext fun d => wyG_M k _, sM_lN]
    split
    · rfl
    · rfl
theorem wyM_le {m : Int32} {al : Nat → Bool} : ∀ k x, wyM m al k x ≤ 9 ^ k
  | 0, x => by unfold wyM; split <;> omega
  | k + 1, x => by
    unfold wyM
    split
    · have := sM_le (p := mvS m x) (fun d => wyM_le (m := m) (al := al) k (mvT x d)) 9
      rw [Nat.pow_succ, Nat.mul_comm]; exact this
    · exact Nat.zero_le _
theorem wyM_mono {m : Int32} {al al' : Nat → Bool} (h : ∀ x, al x = true → al' x = true) : ∀ k x, wyM m al k x ≤ wyM m al' k x
  | 0, x => by
    unfold wyM
    cases q : al x with
    | false => simp
    | true => rw [h x q]; exact Nat.le_refl _
  | k + 1, x => by
    unfold wyM
    cases q : al x with
    | false => simp
    | true => rw [h x q]; exact sM_mono (fun d => wyM_mono h k _) 9
def ptM (I : AI) (z : Int32) (n : Nat) (F : Nat → Bool) : Nat := sM (wyM (I 100 6) (in0 I z) n) F 96
theorem pthV_M {I : AI} {z : Int32} {n : Nat} {F : Nat → Bool} : pthV I z n F = lN (ptM I z n F) := by
  unfold pthV ptM
  rw [← sM_lN]
  exact sumW_cg fun x _ => ⟨rfl, by rw [wyN_G, wyG_M]⟩
theorem ptM_le {I : AI} {z : Int32} {n : Nat} {F : Nat → Bool} (hn : n ≤ 12) : ptM I z n F ≤ 27113235502176 := by
  have h1 := sM_le (p := F) (fun x => wyM_le (m := I 100 6) (al := in0 I z) n x) 96
  have h2 : 9 ^ n ≤ 9 ^ 12 := Nat.pow_le_pow_right (by decide) hn
  have h3 : 96 * 9 ^ n ≤ 96 * 9 ^ 12 := Nat.mul_le_mul_left 96 h2
  have h4 : 96 * 9 ^ 12 = 27113235502176 := by decide
  unfold ptM; omega
theorem ptM_mono {I : AI} {z z' : Int32} {n : Nat} {F : Nat → Bool} (h : ∀ x, in0 I z x = true → in0 I z' x = true) : ptM I z n F ≤ ptM I z' n F := sM_mono (fun x => wyM_mono h n x) 96
