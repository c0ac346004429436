/-! ===== how many bits ===== -/
def uN (x : Int64) : Nat := x.toUInt64.toNat
theorem uN_lt (x : Int64) : uN x < 18446744073709551616 := x.toUInt64.toNat_lt
theorem uN_add (x y : Int64) : uN (x + y) = (uN x + uN y) % 18446744073709551616 := by
  show (x.toUInt64 + y.toUInt64).toNat = _
  exact UInt64.toNat_add _ _
theorem uN_sub (x y : Int64) : uN (x - y) = (18446744073709551616 - uN y + uN x) % 18446744073709551616 := by
  show (x.toUInt64 - y.toUInt64).toNat = _
  exact UInt64.toNat_sub _ _
theorem uN_and (x y : Int64) : uN (x &&& y) = uN x &&& uN y := UInt64.toNat_and _ _
theorem uN_shr {k : Nat} (hk : k < 64) (x : Int64) : uN (x.toUInt64 >>> ((nI k).toInt64.toUInt64 &&& Int64.toUInt64 63)).toInt64 = uN x / 2 ^ k := by
  show (x.toUInt64 >>> ((nI k).toInt64.toUInt64 &&& Int64.toUInt64 63)).toNat = _
  have e : ((nI k).toInt64.toUInt64 &&& Int64.toUInt64 63).toNat % 64 = k := s6_u k hk
  rw [UInt64.toNat_shiftRight, e, Nat.shiftRight_eq_div_pow]
  rfl
theorem uN_bt (x : Int64) (i : Nat) : bt6 x i = (uN x).testBit i := rfl
/-- a number of eight digits -/
def dg8 (f : Nat → Nat) : Nat := f 0 + 256 * (f 1 + 256 * (f 2 + 256 * (f 3 + 256 * (f 4 + 256 * (f 5 + 256 * (f 6 + 256 * f 7))))))
theorem and_dg {a m A B : Nat} (ha : a < 256) (hm : m < 256) : (a + 256 * A) &&& (m + 256 * B) = (a &&& m) + 256 * (A &&& B) := by
  have hl : a &&& m < 2 ^ 8 := Nat.and_lt_two_pow a (show m < 2 ^ 8 by omega)
  apply Nat.eq_of_testBit_eq
  intro i
  rw [Nat.testBit_and, show a + 256 * A = 2 ^ 8 * A + a by omega, show m + 256 * B = 2 ^ 8 * B + m by omega, show (a &&& m) + 256 * (A &&& B) = 2 ^ 8 * (A &&& B) + (a &&& m) by omega]
  rw [Nat.testBit_two_pow_mul_add _ (show a < 2 ^ 8 by omega), Nat.testBit_two_pow_mul_add _ (show m < 2 ^ 8 by omega), Nat.testBit_two_pow_mul_add _ hl]
  split
  · rw [Nat.testBit_and]
  · rw [Nat.testBit_and]
theorem and_dg8 {f : Nat → Nat} (hf : ∀ k, k < 8 → f k < 256) {m : Nat} (hm : m < 256) : dg8 f &&& dg8 (fun _ => m) = dg8 (fun k => f k &&& m) := by
  unfold dg8
  rw [and_dg (hf 0 (by omega)) hm, and_dg (hf 1 (by omega)) hm, and_dg (hf 2 (by omega)) hm, and_dg (hf 3 (by omega)) hm, and_dg (hf 4 (by omega)) hm, and_dg (hf 5 (by omega)) hm, and_dg (hf 6 (by omega)) hm]
theorem dg8_of (n : Nat) (h : n < 18446744073709551616) : n = dg8 (fun k => n / 256 ^ k % 256) := by
  unfold dg8
  simp only [Nat.pow_zero, Nat.div_one]
  have e1 : n / 256 ^ 1 = n / 256 := rfl
  have e2 : n / 256 ^ 2 = n / 256 / 256 := by rw [Nat.div_div_eq_div_mul]
  have e3 : n / 256 ^ 3 = n / 256 / 256 / 256 := by rw [Nat.div_div_eq_div_mul, Nat.div_div_eq_div_mul]
  have e4 : n / 256 ^ 4 = n / 256 / 256 / 256 / 256 := by rw [Nat.div_div_eq_div_mul, Nat.div_div_eq_div_mul, Nat.div_div_eq_div_mul]
  have e5 : n / 256 ^ 5 = n / 256 / 256 / 256 / 256 / 256 := by rw [Nat.div_div_eq_div_mul, Nat.div_div_eq_div_mul, Nat.div_div_eq_div_mul, Nat.div_div_eq_div_mul]
  have e6 : n / 256 ^ 6 = n / 256 / 256 / 256 / 256 / 256 / 256 := by rw [Nat.div_div_eq_div_mul, Nat.div_div_eq_div_mul, Nat.div_div_eq_div_mul, Nat.div_div_eq_div_mul, Nat.div_div_eq_div_mul]
  have e7 : n / 256 ^ 7 = n / 256 / 256 / 256 / 256 / 256 / 256 / 256 := by rw [Nat.div_div_eq_div_mul, Nat.div_div_eq_div_mul, Nat.div_div_eq_div_mul, Nat.div_div_eq_div_mul, Nat.div_div_eq_div_mul, Nat.div_div_eq_div_mul]
  rw [e1, e2, e3, e4, e5, e6, e7]
  omega
def pq1 (d : Nat) : Nat := d - (d / 2 &&& 85)
def pq2 (d : Nat) : Nat := (pq1 d &&& 51) + (pq1 d / 4 &&& 51)
def pq3 (d : Nat) : Nat := (pq2 d + pq2 d / 16) % 16
theorem t_1 : ∀ d, d < 256 → ((d / 2 + 128) &&& 85) = (d / 2 &&& 85) ∧ (d / 2 &&& 85) ≤ d := by decide +kernel
theorem t_2 : ∀ d, d < 256 → ∀ e, e < 4 → ((d / 4 + 64 * e) &&& 51) = (d / 4 &&& 51) := by decide +kernel
theorem t_3 : ∀ d, d < 256 → pq2 d ≤ 68 ∧ pq2 d % 16 ≤ 4 ∧ pq3 d = cnt (fun i => d.testBit i) 8 ∧ pq3 d ≤ 8 ∧ pq1 d < 256 := by decide +kernel
theorem t_4 (a : Nat) : a &&& 15 = a % 16 := Nat.and_two_pow_sub_one_eq_mod a 4
theorem h2_dg {f : Nat → Nat} (hf : ∀ k, k < 8 → f k < 256) : dg8 f / 2 &&& dg8 (fun _ => 85) = dg8 (fun k => f k / 2 &&& 85) := by
  have e : dg8 f / 2 = dg8 (fun k => f k / 2 + 128 * (if k < 7 then f (k + 1) % 2 else 0)) := by unfold dg8; simp; omega
  have hb : ∀ k, k < 8 → f k / 2 + 128 * (if k < 7 then f (k + 1) % 2 else 0) < 256 := by
    intro k hk
    have := hf k hk
    split <;> omega
  rw [e, and_dg8 hb (by omega)]
  have hk : ∀ k, k < 8 → (f k / 2 + 128 * (if k < 7 then f (k + 1) % 2 else 0)) &&& 85 = f k / 2 &&& 85 := by
    intro k hk
    have h1 := (t_1 (f k) (hf k hk)).1
    have h2 : (if k < 7 then f (k + 1) % 2 else 0) = 0 ∨ (if k < 7 then f (k + 1) % 2 else 0) = 1 := by split <;> omega
    rcases h2 with h2 | h2
    · rw [h2, Nat.mul_zero, Nat.add_zero]
    · rw [h2]; exact h1
  unfold dg8
  simp only [hk 0 (by omega), hk 1 (by omega), hk 2 (by omega), hk 3 (by omega), hk 4 (by omega), hk 5 (by omega), hk 6 (by omega), hk 7 (by omega)]
theorem h4_dg {f : Nat → Nat} (hf : ∀ k, k < 8 → f k < 256) : dg8 f / 4 &&& dg8 (fun _ => 51) = dg8 (fun k => f k / 4 &&& 51) := by
  have e : dg8 f / 4 = dg8 (fun k => f k / 4 + 64 * (if k < 7 then f (k + 1) % 4 else 0)) := by unfold dg8; simp; omega
  have hb : ∀ k, k < 8 → f k / 4 + 64 * (if k < 7 then f (k + 1) % 4 else 0) < 256 := by
    intro k hk
    have := hf k hk
    split <;> omega
  rw [e, and_dg8 hb (by omega)]
  have hk : ∀ k, k < 8 → (f k / 4 + 64 * (if k < 7 then f (k + 1) % 4 else 0)) &&& 51 = f k / 4 &&& 51 := by
    intro k hk
    exact t_2 (f k) (hf k hk) _ (by split <;> omega)
  unfold dg8
  simp only [hk 0 (by omega), hk 1 (by omega), hk 2 (by omega), hk 3 (by omega), hk 4 (by omega), hk 5 (by omega), hk 6 (by omega), hk 7 (by omega)]
theorem sum_dg (f g : Nat → Nat) : dg8 f + dg8 g = dg8 (fun k => f k + g k) := by unfold dg8; simp only; omega
theorem sub_dg {f g : Nat → Nat} (h : ∀ k, k < 8 → g k ≤ f k) : dg8 f - dg8 g = dg8 (fun k => f k - g k) ∧ dg8 g ≤ dg8 f := by
  have h0 := h 0 (by omega); have h1 := h 1 (by omega); have h2 := h 2 (by omega); have h3 := h 3 (by omega); have h4 := h 4 (by omega); have h5 := h 5 (by omega); have h6 := h 6 (by omega); have h7 := h 7 (by omega)
  unfold dg8; simp only; constructor <;> omega
theorem lt_dg {f : Nat → Nat} (h : ∀ k, k < 8 → f k < 256) : dg8 f < 18446744073709551616 := by
  have h0 := h 0 (by omega); have h1 := h 1 (by omega); have h2 := h 2 (by omega); have h3 := h 3 (by omega); have h4 := h 4 (by omega); have h5 := h 5 (by omega); have h6 := h 6 (by omega); have h7 := h 7 (by omega)
  unfold dg8; omega
def bq1 (x : Int64) : Int64 := x - ((x.toUInt64 >>> ((1 : Int32).toInt64.toUInt64 &&& Int64.toUInt64 63)).toInt64 &&& 6148914691236517205)
def bq2 (x : Int64) : Int64 := (bq1 x &&& 3689348814741910323) + (((bq1 x).toUInt64 >>> ((2 : Int32).toInt64.toUInt64 &&& Int64.toUInt64 63)).toInt64 &&& 3689348814741910323)
def bq3 (x : Int64) : Int64 := (bq2 x + ((bq2 x).toUInt64 >>> ((4 : Int32).toInt64.toUInt64 &&& Int64.toUInt64 63)).toInt64) &&& 1085102592571150095
def bq4 (x : Int64) : Int64 := bq3 x + ((bq3 x).toUInt64 >>> ((8 : Int32).toInt64.toUInt64 &&& Int64.toUInt64 63)).toInt64
def bq5 (x : Int64) : Int64 := bq4 x + ((bq4 x).toUInt64 >>> ((16 : Int32).toInt64.toUInt64 &&& Int64.toUInt64 63)).toInt64
def bq6 (x : Int64) : Int64 := bq5 x + ((bq5 x).toUInt64 >>> ((32 : Int32).toInt64.toUInt64 &&& Int64.toUInt64 63)).toInt64
theorem bc64_e (x : Int64) : bc64 x = (bq6 x).toInt32 &&& 127 := rfl
theorem bq1_n {x : Int64} {f : Nat → Nat} (hf : ∀ k, k < 8 → f k < 256) (h : uN x = dg8 f) : uN (bq1 x) = dg8 (fun k => pq1 (f k)) := by
  have e1 : uN ((x.toUInt64 >>> ((1 : Int32).toInt64.toUInt64 &&& Int64.toUInt64 63)).toInt64) = uN x / 2 := uN_shr (k := 1) (by omega) x
  have em : uN 6148914691236517205 = dg8 (fun _ => 85) := by decide
  have hq := sub_dg (f := f) (g := fun k => f k / 2 &&& 85) (fun k hk => (t_1 (f k) (hf k hk)).2)
  have hl := lt_dg hf
  unfold bq1
  rw [uN_sub, uN_and, e1, em, h, h2_dg hf]
  have e2 : (18446744073709551616 - dg8 (fun k => f k / 2 &&& 85) + dg8 f) % 18446744073709551616 = dg8 f - dg8 (fun k => f k / 2 &&& 85) := by omega
  rw [e2, hq.1]; rfl
theorem bq2_n {x : Int64} {f : Nat → Nat} (hf : ∀ k, k < 8 → f k < 256) (h : uN x = dg8 f) : uN (bq2 x) = dg8 (fun k => pq2 (f k)) := by
  have e1 : uN (((bq1 x).toUInt64 >>> ((2 : Int32).toInt64.toUInt64 &&& Int64.toUInt64 63)).toInt64) = uN (bq1 x) / 4 := uN_shr (k := 2) (by omega) (bq1 x)
  have em : uN 3689348814741910323 = dg8 (fun _ => 51) := by decide
  have hp : ∀ k, k < 8 → pq1 (f k) < 256 := fun k hk => (t_3 (f k) (hf k hk)).2.2.2.2
  unfold bq2
  rw [uN_add, uN_and, uN_and, e1, em, bq1_n hf h, h4_dg hp, and_dg8 hp (by omega), sum_dg]
  exact Nat.mod_eq_of_lt (lt_dg (f := fun k => pq2 (f k)) fun k hk => by have := (t_3 (f k) (hf k hk)).1; omega)
theorem bq3_n {x : Int64} {f : Nat → Nat} (hf : ∀ k, k < 8 → f k < 256) (h : uN x = dg8 f) : uN (bq3 x) = dg8 (fun k => pq3 (f k)) := by
  have e1 : uN (((bq2 x).toUInt64 >>> ((4 : Int32).toInt64.toUInt64 &&& Int64.toUInt64 63)).toInt64) = uN (bq2 x) / 16 := uN_shr (k := 4) (by omega) (bq2 x)
  have em : uN 1085102592571150095 = dg8 (fun _ => 15) := by decide
  have hp : ∀ k, k < 8 → pq2 (f k) ≤ 68 ∧ pq2 (f k) % 16 ≤ 4 := fun k hk => ⟨(t_3 (f k) (hf k hk)).1, (t_3 (f k) (hf k hk)).2.1⟩
  have e2 : dg8 (fun k => pq2 (f k)) / 16 = dg8 (fun k => pq2 (f k) / 16 + 16 * (if k < 7 then pq2 (f (k + 1)) % 16 else 0)) := by unfold dg8; simp; omega
  have hb : ∀ k, k < 8 → pq2 (f k) + (pq2 (f k) / 16 + 16 * (if k < 7 then pq2 (f (k + 1)) % 16 else 0)) < 256 := by
    intro k hk
    have a := hp k hk
    split
    · have b := hp (k + 1) (by omega); omega
    · omega
  unfold bq3
  rw [uN_and, uN_add, e1, em, bq2_n hf h, e2, sum_dg, Nat.mod_eq_of_lt (lt_dg hb), and_dg8 hb (by omega)]
  have hk : ∀ k, k < 8 → (pq2 (f k) + (pq2 (f k) / 16 + 16 * (if k < 7 then pq2 (f (k + 1)) % 16 else 0))) &&& 15 = pq3 (f k) := by
    intro k hk
    rw [t_4]
    unfold pq3
    omega
  unfold dg8
  simp only [hk 0 (by omega), hk 1 (by omega), hk 2 (by omega), hk 3 (by omega), hk 4 (by omega), hk 5 (by omega), hk 6 (by omega), hk 7 (by omega)]
theorem cnt_add {f : Nat → Bool} {a : Nat} : ∀ b, cnt f (a + b) = cnt f a + cnt (fun i => f (a + i)) b
  | 0 => rfl
  | b + 1 => by
    show cnt f (a + b) + (if f (a + b) then 1 else 0) = cnt f a + (cnt (fun i => f (a + i)) b + (if f (a + b) then 1 else 0))
    rw [cnt_add b]; omega
theorem cnt_cg {f g : Nat → Bool} : ∀ {n : Nat}, (∀ i, i < n → f i = g i) → cnt f n = cnt g n
  | 0, _ => rfl
  | n + 1, h => by unfold cnt; rw [cnt_cg (fun i hi => h i (by omega)), h n (by omega)]
theorem cnt_0 {f : Nat → Bool} : ∀ {n : Nat}, (∀ i, i < n → f i = false) → cnt f n = 0
  | 0, _ => rfl
  | n + 1, h => by unfold cnt; rw [cnt_0 (fun i hi => h i (by omega)), h n (by omega)]; rfl
theorem dig_bit {n k i : Nat} (hi : i < 8) : (n / 256 ^ k % 256).testBit i = n.testBit (8 * k + i) := by
  rw [show 256 = 2 ^ 8 from rfl, Nat.testBit_mod_two_pow, ← Nat.pow_mul, Nat.testBit_div_two_pow]
  simp [hi, Nat.add_comm]
theorem fold_sh {A B m y z N : Nat} (hm : 0 < m) (hA : A < m) (hy : y = A + m * B) (hz : z = (y + y / m) % N) (hN : A + m * B + B < N) : z = A + m * B + B := by
  rw [hz, hy, Nat.add_mul_div_left _ _ hm, Nat.div_eq_of_lt hA, Nat.zero_add, Nat.mod_eq_of_lt hN]
theorem swar_a {s r : Nat} (hs : s ≤ 64) : (s + 256 * r) % 2 ^ 32 % 2 ^ 7 = s := by omega
theorem swar_b {c0 c1 c2 c3 c4 c5 c6 c7 : Nat} (h0 : c0 ≤ 8) (h1 : c1 ≤ 8) (h2 : c2 ≤ 8) (h3 : c3 ≤ 8) (h4 : c4 ≤ 8) (h5 : c5 ≤ 8) (h6 : c6 ≤ 8) (h7 : c7 ≤ 8) : c0 + 256 * (c1 + 256 * (c2 + 256 * (c3 + 256 * (c4 + 256 * (c5 + 256 * (c6 + 256 * c7)))))) + (c1 + 256 * (c2 + 256 * (c3 + 256 * (c4 + 256 * (c5 + 256 * (c6 + 256 * c7)))))) < 18446744073709551616 := by omega
theorem swar_c {c0 c1 c2 c3 c4 c5 c6 c7 : Nat} (h0 : c0 ≤ 8) (h1 : c1 ≤ 8) (h2 : c2 ≤ 8) (h3 : c3 ≤ 8) (h4 : c4 ≤ 8) (h5 : c5 ≤ 8) (h6 : c6 ≤ 8) (h7 : c7 ≤ 8) : (c0 + c1 + 256 * (c1 + c2)) + 65536 * ((c2 + c3) + 256 * ((c3 + c4) + 256 * ((c4 + c5) + 256 * ((c5 + c6) + 256 * ((c6 + c7) + 256 * c7))))) + ((c2 + c3) + 256 * ((c3 + c4) + 256 * ((c4 + c5) + 256 * ((c5 + c6) + 256 * ((c6 + c7) + 256 * c7))))) < 18446744073709551616 := by omega
theorem swar_d {c0 c1 c2 c3 c4 c5 c6 c7 : Nat} (h0 : c0 ≤ 8) (h1 : c1 ≤ 8) (h2 : c2 ≤ 8) (h3 : c3 ≤ 8) (h4 : c4 ≤ 8) (h5 : c5 ≤ 8) (h6 : c6 ≤ 8) (h7 : c7 ≤ 8) : (c0 + c1 + c2 + c3) + 256 * ((c1 + c2 + c3 + c4) + 256 * ((c2 + c3 + c4 + c5) + 256 * (c3 + c4 + c5 + c6))) + 4294967296 * ((c4 + c5 + c6 + c7) + 256 * ((c5 + c6 + c7) + 256 * ((c6 + c7) + 256 * c7))) + ((c4 + c5 + c6 + c7) + 256 * ((c5 + c6 + c7) + 256 * ((c6 + c7) + 256 * c7))) < 18446744073709551616 := by omega
theorem swar_e {c0 c1 c2 c3 c4 c5 c6 c7 y3 y4 : Nat} (h0 : c0 ≤ 8) (h1 : c1 ≤ 8) (h2 : c2 ≤ 8) (h3 : c3 ≤ 8) (h4 : c4 ≤ 8) (h5 : c5 ≤ 8) (h6 : c6 ≤ 8) (h7 : c7 ≤ 8) (e3 : y3 = c0 + 256 * (c1 + 256 * (c2 + 256 * (c3 + 256 * (c4 + 256 * (c5 + 256 * (c6 + 256 * c7))))))) (u4 : y4 = (y3 + y3 / 256) % 18446744073709551616) : y4 = (c0 + c1 + 256 * (c1 + c2)) + 65536 * ((c2 + c3) + 256 * ((c3 + c4) + 256 * ((c4 + c5) + 256 * ((c5 + c6) + 256 * ((c6 + c7) + 256 * c7))))) := by
  have h := fold_sh (m := 256) (by decide) (show c0 < 256 by omega) e3 u4 (swar_b h0 h1 h2 h3 h4 h5 h6 h7)
  clear u4 e3
  rw [h]; omega
theorem swar_f {c0 c1 c2 c3 c4 c5 c6 c7 y4 y5 : Nat} (h0 : c0 ≤ 8) (h1 : c1 ≤ 8) (h2 : c2 ≤ 8) (h3 : c3 ≤ 8) (h4 : c4 ≤ 8) (h5 : c5 ≤ 8) (h6 : c6 ≤ 8) (h7 : c7 ≤ 8) (e4 : y4 = (c0 + c1 + 256 * (c1 + c2)) + 65536 * ((c2 + c3) + 256 * ((c3 + c4) + 256 * ((c4 + c5) + 256 * ((c5 + c6) + 256 * ((c6 + c7) + 256 * c7)))))) (u5 : y5 = (y4 + y4 / 65536) % 18446744073709551616) : y5 = (c0 + c1 + c2 + c3) + 256 * ((c1 + c2 + c3 + c4) + 256 * ((c2 + c3 + c4 + c5) + 256 * (c3 + c4 + c5 + c6))) + 4294967296 * ((c4 + c5 + c6 + c7) + 256 * ((c5 + c6 + c7) + 256 * ((c6 + c7) + 256 * c7))) := by
  have h := fold_sh (m := 65536) (by decide) (show c0 + c1 + 256 * (c1 + c2) < 65536 by omega) e4 u5 (swar_c h0 h1 h2 h3 h4 h5 h6 h7)
  clear u5 e4
  rw [h]; omega
theorem swar_g {c0 c1 c2 c3 c4 c5 c6 c7 y5 y6 : Nat} (h0 : c0 ≤ 8) (h1 : c1 ≤ 8) (h2 : c2 ≤ 8) (h3 : c3 ≤ 8) (h4 : c4 ≤ 8) (h5 : c5 ≤ 8) (h6 : c6 ≤ 8) (h7 : c7 ≤ 8) (e5 : y5 = (c0 + c1 + c2 + c3) + 256 * ((c1 + c2 + c3 + c4) + 256 * ((c2 + c3 + c4 + c5) + 256 * (c3 + c4 + c5 + c6))) + 4294967296 * ((c4 + c5 + c6 + c7) + 256 * ((c5 + c6 + c7) + 256 * ((c6 + c7) + 256 * c7)))) (u6 : y6 = (y5 + y5 / 4294967296) % 18446744073709551616) : y6 = (c0 + c1 + c2 + c3 + c4 + c5 + c6 + c7) + 256 * ((c1 + c2 + c3 + c4) + 256 * ((c2 + c3 + c4 + c5) + 256 * (c3 + c4 + c5 + c6)) + 16777216 * ((c4 + c5 + c6 + c7) + 256 * ((c5 + c6 + c7) + 256 * ((c6 + c7) + 256 * c7))) + ((c5 + c6 + c7) + 256 * ((c6 + c7) + 256 * c7))) := by
  have h := fold_sh (m := 4294967296) (by decide) (show (c0 + c1 + c2 + c3) + 256 * ((c1 + c2 + c3 + c4) + 256 * ((c2 + c3 + c4 + c5) + 256 * (c3 + c4 + c5 + c6))) < 4294967296 by omega) e5 u6 (swar_d h0 h1 h2 h3 h4 h5 h6 h7)
  clear u6 e5
  rw [h]; omega
theorem swar_end {c0 c1 c2 c3 c4 c5 c6 c7 y3 y4 y5 y6 : Nat} (h0 : c0 ≤ 8) (h1 : c1 ≤ 8) (h2 : c2 ≤ 8) (h3 : c3 ≤ 8) (h4 : c4 ≤ 8) (h5 : c5 ≤ 8) (h6 : c6 ≤ 8) (h7 : c7 ≤ 8) (e3 : y3 = c0 + 256 * (c1 + 256 * (c2 + 256 * (c3 + 256 * (c4 + 256 * (c5 + 256 * (c6 + 256 * c7))))))) (u4 : y4 = (y3 + y3 / 256) % 18446744073709551616) (u5 : y5 = (y4 + y4 / 65536) % 18446744073709551616) (u6 : y6 = (y5 + y5 / 4294967296) % 18446744073709551616) : y6 % 2 ^ 32 % 2 ^ 7 = c0 + c1 + c2 + c3 + c4 + c5 + c6 + c7 := by
  have e := swar_g h0 h1 h2 h3 h4 h5 h6 h7 (swar_f h0 h1 h2 h3 h4 h5 h6 h7 (swar_e h0 h1 h2 h3 h4 h5 h6 h7 e3 u4) u5) u6
  rw [e]
  exact swar_a (by clear e u4 u5 u6 e3; omega)
theorem bc64_q (x : Int64) : bc64 x = nI (cnt (bt6 x) 64) := by
  have hf : ∀ k, k < 8 → (fun k => uN x / 256 ^ k % 256) k < 256 := fun k _ => Nat.mod_lt _ (by omega)
  have h3 := bq3_n hf (dg8_of (uN x) (uN_lt x))
  have hc : ∀ k, k < 8 → pq3 (uN x / 256 ^ k % 256) = cnt (fun i => (uN x).testBit (8 * k + i)) 8 ∧ pq3 (uN x / 256 ^ k % 256) ≤ 8 := fun k hk => by
    have h := t_3 _ (hf k hk)
    refine ⟨h.2.2.1.trans (cnt_cg fun i hi => dig_bit hi), h.2.2.2.1⟩
  have e4 : uN (((bq3 x).toUInt64 >>> ((8 : Int32).toInt64.toUInt64 &&& Int64.toUInt64 63)).toInt64) = uN (bq3 x) / 256 := uN_shr (k := 8) (by omega) (bq3 x)
  have e5 : uN (((bq4 x).toUInt64 >>> ((16 : Int32).toInt64.toUInt64 &&& Int64.toUInt64 63)).toInt64) = uN (bq4 x) / 65536 := uN_shr (k := 16) (by omega) (bq4 x)
  have e6 : uN (((bq5 x).toUInt64 >>> ((32 : Int32).toInt64.toUInt64 &&& Int64.toUInt64 63)).toInt64) = uN (bq5 x) / 4294967296 := uN_shr (k := 32) (by omega) (bq5 x)
  have u4 : uN (bq4 x) = (uN (bq3 x) + uN (bq3 x) / 256) % 18446744073709551616 := by unfold bq4; rw [uN_add, e4]
  have u5 : uN (bq5 x) = (uN (bq4 x) + uN (bq4 x) / 65536) % 18446744073709551616 := by unfold bq5; rw [uN_add, e5]
  have u6 : uN (bq6 x) = (uN (bq5 x) + uN (bq5 x) / 4294967296) % 18446744073709551616 := by unfold bq6; rw [uN_add, e6]
  have et : ((bq6 x).toInt32).toBitVec.toNat = uN (bq6 x) % 2 ^ 32 := by
    rw [Int64.toBitVec_toInt32, BitVec.signExtend_eq_setWidth_of_le _ (by omega), BitVec.toNat_setWidth]; rfl
  rw [bc64_e, pk_and _ 7 (by decide), et]
  congr 1
  have ec : cnt (bt6 x) 64 = pq3 (uN x / 256 ^ 0 % 256) + pq3 (uN x / 256 ^ 1 % 256) + pq3 (uN x / 256 ^ 2 % 256) + pq3 (uN x / 256 ^ 3 % 256) + pq3 (uN x / 256 ^ 4 % 256) + pq3 (uN x / 256 ^ 5 % 256) + pq3 (uN x / 256 ^ 6 % 256) + pq3 (uN x / 256 ^ 7 % 256) := by
    rw [(hc 0 (by omega)).1, (hc 1 (by omega)).1, (hc 2 (by omega)).1, (hc 3 (by omega)).1, (hc 4 (by omega)).1, (hc 5 (by omega)).1, (hc 6 (by omega)).1, (hc 7 (by omega)).1]
    have hb : bt6 x = fun i => (uN x).testBit i := rfl
    rw [hb, show 64 = 56 + 8 from rfl, cnt_add, show 56 = 48 + 8 from rfl, cnt_add, show 48 = 40 + 8 from rfl, cnt_add, show 40 = 32 + 8 from rfl, cnt_add, show 32 = 24 + 8 from rfl, cnt_add, show 24 = 16 + 8 from rfl, cnt_add, show 16 = 8 + 8 from rfl, cnt_add]
    simp only [Nat.mul_zero, Nat.zero_add, Nat.reduceMul, Nat.reduceAdd]
  have h0 := (hc 0 (by omega)).2; have h1 := (hc 1 (by omega)).2; have h2 := (hc 2 (by omega)).2; have h3' := (hc 3 (by omega)).2; have h4 := (hc 4 (by omega)).2; have h5 := (hc 5 (by omega)).2; have h6 := (hc 6 (by omega)).2; have h7 := (hc 7 (by omega)).2
  rw [ec]
  unfold dg8 at h3
  simp only at h3
  generalize pq3 (uN x / 256 ^ 0 % 256) = c0 at *
  generalize pq3 (uN x / 256 ^ 1 % 256) = c1 at *
  generalize pq3 (uN x / 256 ^ 2 % 256) = c2 at *
  generalize pq3 (uN x / 256 ^ 3 % 256) = c3 at *
  generalize pq3 (uN x / 256 ^ 4 % 256) = c4 at *
  generalize pq3 (uN x / 256 ^ 5 % 256) = c5 at *
  generalize pq3 (uN x / 256 ^ 6 % 256) = c6 at *
  generalize pq3 (uN x / 256 ^ 7 % 256) = c7 at *
  generalize uN (bq3 x) = y3 at *
  generalize uN (bq4 x) = y4 at *
  generalize uN (bq5 x) = y5 at *
  generalize uN (bq6 x) = y6 at *
  clear hc ec e4 e5 e6 et hf
  exact swar_end h0 h1 h2 h3' h4 h5 h6 h7 h3 u4 u5 u6
theorem cnt_48 {x : Int64} (h : w48 x) : cnt (bt6 x) 64 = cnt (bt6 x) 48 := by
  rw [show 64 = 48 + 16 from rfl, cnt_add, cnt_0 (f := fun i => bt6 x (48 + i)) (fun i _ => h (48 + i) (by omega)), Nat.add_zero]
theorem size_q {x y : Int64} (hx : w48 x) (hy : w48 y) : bc64 x + bc64 y = nI (cnt (hs x y) 96) := by
  have e1 : cnt (bt6 x) 48 = cnt (hs x y) 48 := cnt_cg fun i hi => by unfold hs; rw [if_pos hi]
  have e2 : cnt (bt6 y) 48 = cnt (fun i => hs x y (48 + i)) 48 := cnt_cg fun i hi => by unfold hs; rw [if_neg (by omega), Nat.add_sub_cancel_left]
  rw [bc64_q, bc64_q, nI_add, cnt_48 hx, cnt_48 hy, e1, e2, ← cnt_add 48]
theorem bc32_q : ∀ s, s < 256 → bc32 (nI s) = nI (popN s) := by decide +kernel
