/-! ===== sets of cells, bit by bit ===== -/
def bt6 (x : Int64) (i : Nat) : Bool := x.toBitVec.getLsbD i
/-- cell c is in the set -/
def hs (x y : Int64) (c : Nat) : Bool := if c < 48 then bt6 x c else bt6 y (c - 48)
def w48 (x : Int64) : Prop := ∀ i, 48 ≤ i → bt6 x i = false
theorem q_and (x y : Int64) (i : Nat) : bt6 (x &&& y) i = (bt6 x i && bt6 y i) := by
  unfold bt6; rw [Int64.toBitVec_and, BitVec.getLsbD_and]
theorem q_or (x y : Int64) (i : Nat) : bt6 (x ||| y) i = (bt6 x i || bt6 y i) := by
  unfold bt6; rw [Int64.toBitVec_or, BitVec.getLsbD_or]
theorem q_xor (x y : Int64) (i : Nat) : bt6 (x ^^^ y) i = (bt6 x i ^^ bt6 y i) := by
  unfold bt6; rw [Int64.toBitVec_xor, BitVec.getLsbD_xor]
theorem q_big {x : Int64} {i : Nat} (h : 64 ≤ i) : bt6 x i = false := by
  unfold bt6; exact BitVec.getLsbD_of_ge _ _ h
theorem q_m1 (i : Nat) : bt6 (-1) i = decide (i < 64) := by
  have e : (-1 : Int64).toBitVec = BitVec.allOnes 64 := by decide
  unfold bt6; rw [e, BitVec.getLsbD_allOnes]
theorem q_not (x : Int64) (i : Nat) : bt6 (x ^^^ -1) i = (decide (i < 64) && !bt6 x i) := by
  rw [q_xor, q_m1]
  by_cases h : i < 64
  · simp [h]
  · rw [q_big (by omega)]; simp [h]
theorem q_0 (i : Nat) : bt6 0 i = false := by
  unfold bt6
  rw [show (0 : Int64).toBitVec = 0#64 from rfl, BitVec.getLsbD_zero]
theorem s6_l : ∀ n, n < 64 → (((nI n).toInt64 &&& 63).toBitVec.smod 64).toNat = n := by decide +kernel
theorem s6_u : ∀ n, n < 64 → (((nI n).toInt64.toUInt64 &&& Int64.toUInt64 63).toBitVec % 64).toNat = n := by decide +kernel
theorem q_shl {k : Nat} (hk : k < 64) (x : Int64) (i : Nat) : bt6 (x <<< ((nI k).toInt64 &&& 63)) i = (decide (i < 64) && (decide (k ≤ i) && bt6 x (i - k))) := by
  unfold bt6
  rw [Int64.toBitVec_shiftLeft]
  show (x.toBitVec <<< (((nI k).toInt64 &&& 63).toBitVec.smod 64).toNat).getLsbD i = _
  rw [s6_l k hk, BitVec.getLsbD_shiftLeft]
  rcases Nat.lt_or_ge i k with h | h
  · simp [h, Nat.not_le.mpr h]
  · simp [h, Nat.not_lt.mpr h]
theorem q_ushr {k : Nat} (hk : k < 64) (x : Int64) (i : Nat) : bt6 ((x.toUInt64 >>> ((nI k).toInt64.toUInt64 &&& Int64.toUInt64 63)).toInt64) i = bt6 x (k + i) := by
  show (x.toUInt64 >>> ((nI k).toInt64.toUInt64 &&& Int64.toUInt64 63)).toBitVec.getLsbD i = x.toUInt64.toBitVec.getLsbD (k + i)
  rw [UInt64.toBitVec_shiftRight]
  show (x.toUInt64.toBitVec >>> (((nI k).toInt64.toUInt64 &&& Int64.toUInt64 63).toBitVec % 64).toNat).getLsbD i = _
  rw [s6_u k hk, BitVec.getLsbD_ushiftRight]
theorem q_one {k : Nat} (hk : k < 64) (i : Nat) : bt6 ((1 : Int64) <<< ((nI k).toInt64 &&& 63)) i = decide (i = k) := by
  rw [q_shl hk]
  by_cases h : i = k
  · subst h
    rw [Nat.sub_self]
    simp [hk, show bt6 1 0 = true by decide]
  · by_cases h1 : k ≤ i
    · have : bt6 1 (i - k) = false := by
        unfold bt6
        rw [show (1 : Int64).toBitVec = 1#64 from rfl, BitVec.getLsbD_one]
        simp; omega
      simp [h, this]
    · simp [h, h1]
theorem q_1 {y : Int64} : (y &&& 1) = 0 ↔ bt6 y 0 = false := by
  constructor
  · intro h
    have t := congrArg (fun z => bt6 z 0) h
    simp only [q_and, q_0] at t
    rw [show bt6 1 0 = true by decide, Bool.and_true] at t
    exact t
  · intro h
    apply Int64.toBitVec_inj.mp
    apply BitVec.eq_of_getLsbD_eq
    intro i hi
    show bt6 (y &&& 1) i = bt6 0 i
    rw [q_and, q_0]
    rcases Nat.eq_zero_or_pos i with h0 | h0
    · subst h0; rw [h]; rfl
    · have : bt6 1 i = false := by
        unfold bt6
        rw [show (1 : Int64).toBitVec = 1#64 from rfl, BitVec.getLsbD_one]
        simp; omega
      rw [this, Bool.and_false]
theorem bitL_q {x : Int64} {k : Nat} (hk : k < 64) : bitL x (nI k) = bt6 x k := by
  have e : lg_cmp ((x.toUInt64 >>> ((nI k).toInt64.toUInt64 &&& Int64.toUInt64 63)).toInt64 &&& 1) 0 = 0 ↔ bt6 x k = false := by
    rw [lg_cmp_eq, q_1, q_ushr hk, Nat.add_zero]
  unfold bitL
  cases h : bt6 x k with
  | false => simp [e.mpr h]
  | true => simp only [decide_eq_true_eq]; intro q; rw [e.mp q] at h; cases h
theorem hasC_q {x y : Int64} {c : Nat} (hc : c < 96) : hasC x y (nI c) = hs x y c := by
  unfold hasC hs
  by_cases h : c < 48
  · rw [if_neg (show ¬ (48 : Int32) ≤ nI c from nI_ge h (by decide)), if_pos h, bitL_q (by omega)]
  · rw [if_pos (show (48 : Int32) ≤ nI c from nI_le (a := 48) (by omega) (by omega)), if_neg h, show nI c - 48 = nI (c - 48) from pk_sub (b := 48) (by omega), bitL_q (by omega)]
theorem hs_and (x y u v : Int64) (c : Nat) : hs (x &&& u) (y &&& v) c = (hs x y c && hs u v c) := by
  unfold hs; split <;> rw [q_and]
theorem hs_or (x y u v : Int64) (c : Nat) : hs (x ||| u) (y ||| v) c = (hs x y c || hs u v c) := by
  unfold hs; split <;> rw [q_or]
theorem hs_drop (x y u v : Int64) {c : Nat} (hc : c < 96) : hs (x &&& (u ^^^ -1)) (y &&& (v ^^^ -1)) c = (hs x y c && !hs u v c) := by
  unfold hs
  split
  · rw [q_and, q_not, decide_eq_true (show c < 64 by omega), Bool.true_and]
  · rw [q_and, q_not, decide_eq_true (show c - 48 < 64 by omega), Bool.true_and]
theorem hs_0 (c : Nat) : hs 0 0 c = false := by unfold hs; split <;> rw [q_0]
theorem q_full (i : Nat) : bt6 281474976710655 i = decide (i < 48) := by
  by_cases h : i < 64
  · have : ∀ i, i < 64 → bt6 281474976710655 i = decide (i < 48) := by decide +kernel
    exact this i h
  · rw [q_big (by omega)]; simp; omega
theorem hs_full {c : Nat} (hc : c < 96) : hs 281474976710655 281474976710655 c = true := by
  unfold hs
  split
  · rw [q_full]; exact decide_eq_true (by omega)
  · rw [q_full]; exact decide_eq_true (by omega)
theorem w_0 : w48 0 := fun i _ => q_0 i
theorem w_full : w48 281474976710655 := fun i h => by rw [q_full]; simp; omega
theorem w_and {x y : Int64} (h : w48 x) : w48 (x &&& y) := fun i hi => by rw [q_and, h i hi]; rfl
theorem w_or {x y : Int64} (h : w48 x) (h2 : w48 y) : w48 (x ||| y) := fun i hi => by rw [q_or, h i hi, h2 i hi]; rfl
theorem w_bt {x : Int64} (h : w48 x) {i : Nat} (hi : 48 ≤ i) : bt6 x i = false := h i hi
/-! one cell -/
theorem hs_set {x y : Int64} {k : Nat} (hk : k < 96) (z : Bool) {c : Nat} (hc : c < 96) : hs (setLo x (nI k) z) (setHi y (nI k) z) c = if c = k then z else hs x y c := by
  unfold setLo setHi
  by_cases h : k < 48
  · rw [if_neg (show ¬ (48 : Int32) ≤ nI k from nI_ge h (by decide)), if_neg (show ¬ (48 : Int32) ≤ nI k from nI_ge h (by decide))]
    unfold hs
    by_cases h1 : c < 48
    · rw [if_pos h1, if_pos h1]
      cases z with
      | true => rw [if_pos rfl, q_or, q_one (by omega)]; by_cases e : c = k <;> simp [e]
      | false => rw [if_neg (by decide), q_and, q_not, q_one (by omega)]; by_cases e : c = k <;> simp [e]; omega
    · rw [if_neg h1, if_neg h1, if_neg (by omega)]
  · rw [if_pos (show (48 : Int32) ≤ nI k from nI_le (a := 48) (by omega) (by omega)), if_pos (show (48 : Int32) ≤ nI k from nI_le (a := 48) (by omega) (by omega)), show nI k - 48 = nI (k - 48) from pk_sub (b := 48) (by omega)]
    unfold hs
    by_cases h1 : c < 48
    · rw [if_pos h1, if_pos h1, if_neg (by omega)]
    · rw [if_neg h1, if_neg h1]
      have e1 : (c - 48 = k - 48) = (c = k) := by apply propext; omega
      cases z with
      | true => rw [if_pos rfl, q_or, q_one (by omega)]; simp only [e1]; by_cases e : c = k <;> simp [e]
      | false => rw [if_neg (by decide), q_and, q_not, q_one (by omega)]; simp only [e1]; by_cases e : c = k <;> simp [e]; omega
theorem w_set {x y : Int64} {k : Nat} (hk : k < 96) (z : Bool) (hx : w48 x) (hy : w48 y) : w48 (setLo x (nI k) z) ∧ w48 (setHi y (nI k) z) := by
  unfold setLo setHi
  by_cases h : k < 48
  · rw [if_neg (show ¬ (48 : Int32) ≤ nI k from nI_ge h (by decide)), if_neg (show ¬ (48 : Int32) ≤ nI k from nI_ge h (by decide))]
    refine ⟨?_, hy⟩
    cases z with
    | true => rw [if_pos rfl]; exact w_or hx (fun i hi => by rw [q_one (by omega)]; simp; omega)
    | false => rw [if_neg (by decide)]; exact w_and hx
  · rw [if_pos (show (48 : Int32) ≤ nI k from nI_le (a := 48) (by omega) (by omega)), if_pos (show (48 : Int32) ≤ nI k from nI_le (a := 48) (by omega) (by omega)), show nI k - 48 = nI (k - 48) from pk_sub (b := 48) (by omega)]
    refine ⟨hx, ?_⟩
    cases z with
    | true => rw [if_pos rfl]; exact w_or hy (fun i hi => by rw [q_one (by omega)]; simp; omega)
    | false => rw [if_neg (by decide)]; exact w_and hy
/-! all cells no farther -/
theorem q_rowm : ∀ a, a < 12 → ∀ f, f < 12 → ∀ i, i < 64 → bt6 (((1 : Int64) <<< ((nI (min 11 (a + f)) + 1).toInt64 &&& 63)) - ((1 : Int64) <<< ((nI (a - f)).toInt64 &&& 63))) i = decide (a - f ≤ i ∧ i ≤ min 11 (a + f)) := by decide +kernel
theorem q_row {c f : Nat} (hf : f < 12) (i : Nat) : bt6 (rowm c f) i = decide (c % 12 - f ≤ i ∧ i ≤ min 11 (c % 12 + f)) := by
  unfold rowm
  by_cases h : i < 64
  · exact q_rowm (c % 12) (by omega) f hf i h
  · rw [q_big (by omega)]; simp; omega
theorem crc_q {m : Int64} (hm : ∀ i, 12 ≤ i → bt6 m i = false) : ∀ (j r : Nat) (x y : Int64), r + j ≤ 8 → ∀ c, c < 96 → hs (crc m j r x y).1 (crc m j r x y).2 c = (hs x y c || (decide (r ≤ c / 12 ∧ c / 12 < r + j) && bt6 m (c % 12)))
  | 0, r, x, y, _, c, _ => by
    have : ¬ (r ≤ c / 12 ∧ c / 12 < r + 0) := by omega
    rw [decide_eq_false this, Bool.false_and, Bool.or_false]; rfl
  | j + 1, r, x, y, hj, c, hc => by
    have hd : decide (r ≤ c / 12 ∧ c / 12 < r + (j + 1)) = (decide (c / 12 = r) || decide (r + 1 ≤ c / 12 ∧ c / 12 < r + 1 + j)) := by
      rw [← Bool.decide_or]; congr 1; apply propext; omega
    unfold crc
    by_cases h : r < 4
    · rw [if_pos h, crc_q hm j (r + 1) _ _ (by omega) c hc, hd, show (12 : Int32) * nI r = nI (12 * r) from nI_mu 12 r]
      have e : hs (x ||| (m <<< ((nI (12 * r)).toInt64 &&& 63))) y c = (hs x y c || (decide (c / 12 = r) && bt6 m (c % 12))) := by
        unfold hs
        by_cases h1 : c < 48
        · rw [if_pos h1, if_pos h1, q_or, q_shl (by omega)]
          congr 1
          by_cases e1 : c / 12 = r
          · rw [show c - 12 * r = c % 12 by omega, decide_eq_true (show c < 64 by omega), decide_eq_true (show 12 * r ≤ c by omega), decide_eq_true e1]; rfl
          · simp only [e1, decide_false, Bool.false_and]
            by_cases e2 : 12 * r ≤ c
            · rw [hm (c - 12 * r) (by omega)]; simp
            · simp [e2]
        · rw [if_neg h1, if_neg h1]
          have : ¬ c / 12 = r := by omega
          simp [this]
      rw [e, Bool.and_or_distrib_right, Bool.or_assoc]
    · rw [if_neg h, crc_q hm j (r + 1) _ _ (by omega) c hc, hd, show nI r - 4 = nI (r - 4) from pk_sub (b := 4) (by omega), show (12 : Int32) * nI (r - 4) = nI (12 * (r - 4)) from nI_mu 12 (r - 4)]
      have e : hs x (y ||| (m <<< ((nI (12 * (r - 4))).toInt64 &&& 63))) c = (hs x y c || (decide (c / 12 = r) && bt6 m (c % 12))) := by
        unfold hs
        by_cases h1 : c < 48
        · rw [if_pos h1, if_pos h1]
          have : ¬ c / 12 = r := by omega
          simp [this]
        · rw [if_neg h1, if_neg h1, q_or, q_shl (by omega)]
          congr 1
          by_cases e1 : c / 12 = r
          · rw [show c - 48 - 12 * (r - 4) = c % 12 by omega, decide_eq_true (show c - 48 < 64 by omega), decide_eq_true (show 12 * (r - 4) ≤ c - 48 by omega), decide_eq_true e1]; rfl
          · simp only [e1, decide_false, Bool.false_and]
            by_cases e2 : 12 * (r - 4) ≤ c - 48
            · rw [hm (c - 48 - 12 * (r - 4)) (by omega)]; simp
            · simp [e2]
      rw [e, Bool.and_or_distrib_right, Bool.or_assoc]
theorem crc_w {m : Int64} (hm : ∀ i, 12 ≤ i → bt6 m i = false) : ∀ (j r : Nat) (x y : Int64), r + j ≤ 8 → w48 x → w48 y → w48 (crc m j r x y).1 ∧ w48 (crc m j r x y).2
  | 0, _, _, _, _, hx, hy => ⟨hx, hy⟩
  | j + 1, r, x, y, hj, hx, hy => by
    unfold crc
    by_cases h : r < 4
    · rw [if_pos h, show (12 : Int32) * nI r = nI (12 * r) from nI_mu 12 r]
      exact crc_w hm j (r + 1) _ _ (by omega) (w_or hx (fun i hi => by rw [q_shl (by omega), hm (i - 12 * r) (by omega)]; simp)) hy
    · rw [if_neg h, show nI r - 4 = nI (r - 4) from pk_sub (b := 4) (by omega), show (12 : Int32) * nI (r - 4) = nI (12 * (r - 4)) from nI_mu 12 (r - 4)]
      exact crc_w hm j (r + 1) _ _ (by omega) hx (w_or hy (fun i hi => by rw [q_shl (by omega), hm (i - 12 * (r - 4)) (by omega)]; simp))
theorem circ_q {c f x : Nat} (hc : c < 96) (hf : f < 12) (hx : x < 96) : hs (circ c f).1 (circ c f).2 x = decide (farN x c ≤ f) := by
  unfold circ
  rw [crc_q (fun i hi => by rw [q_row hf]; simp; omega) _ _ _ _ (by omega) x hx, hs_0, Bool.false_or, q_row hf, ← Bool.decide_and]
  congr 1
  apply propext
  unfold farN dst
  omega
theorem circ_w {c f : Nat} (hc : c < 96) (hf : f < 12) : w48 (circ c f).1 ∧ w48 (circ c f).2 :=
  crc_w (fun i hi => by rw [q_row hf]; simp; omega) _ _ _ _ (by omega) w_0 w_0
