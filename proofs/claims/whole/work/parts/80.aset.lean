/-! ===== CellSet by sets ===== -/
/-- it answers nothing, and cell a holds f then -/
def rS (S : List Sh) (I : AI) (J : AJ) (a : Nat) (f : Nat → Bool) : PT := fun r S' I' J' => none = r ∧ S = S' ∧ I = I' ∧ ∃ J1, J1 = J' ∧ kJ [a] J J1 ∧ cs J1 a f
theorem rS_of {γ : GE} {m : MI} {d : Nat} {as : List Value} {S : List Sh} {I : AI} {J : AJ} {a : Nat} {x y : Int64} {f : Nat → Bool} (h : Ct γ m d 0 0 as S I J (rV S I (ldJ J a x y))) (hc : cs (ldJ J a x y) a f) : Ct γ m d 0 0 as S I J (rS S I J a f) := by
  refine ct_post (fun r S' I' J' h => ?_) h
  obtain ⟨rfl, rfl, rfl, rfl⟩ := h
  exact ⟨rfl, rfl, rfl, _, rfl, kJ_ld (List.mem_singleton.mpr rfl), hc⟩
theorem rI_of {γ : GE} {m : MI} {d : Nat} {as : List Value} {S : List Sh} {I : AI} {J : AJ} {x y : Int32} (h : Ct γ m d 0 0 as S I J (rI x S I J)) (e : x = y) : Ct γ m d 0 0 as S I J (rI y S I J) := by rw [← e]; exact h
theorem a_load (γ : GE) {S : List Sh} {I : AI} {J : AJ} {a : Nat} (ha : S[a]? = some csh) {f : Nat → Bool} {x y : Int64} (hx : w48 x) (hy : w48 y) (h : ∀ c, c < 96 → hs x y c = f c) : Ct γ mX0_load 0 0 0 [.ref a, .long x, .long y] S I J (rS S I J a f) := rS_of (c_X0_load γ ha x y) (cs_ld hx hy h)
theorem a_fill (γ : GE) {S : List Sh} {I : AI} {J : AJ} {a : Nat} (ha : S[a]? = some csh) : Ct γ mX0_fill 1 0 0 [.ref a] S I J (rS S I J a (fun _ => true)) := rS_of (c_X0_fill γ ha) cs_fill
theorem a_clear (γ : GE) {S : List Sh} {I : AI} {J : AJ} {a : Nat} (ha : S[a]? = some csh) : Ct γ mX0_clear 1 0 0 [.ref a] S I J (rS S I J a (fun _ => false)) := rS_of (c_X0_clear γ ha) cs_clear
theorem a_copy (γ : GE) {S : List Sh} {I : AI} {J : AJ} {a : Nat} (ha : S[a]? = some csh) {b : Nat} (hb : S[b]? = some csh) {g : Nat → Bool} (hg : cs J b g) : Ct γ mX0_copy 1 0 0 [.ref a, .ref b] S I J (rS S I J a g) := rS_of (c_X0_copy γ ha hb) (cs_copy hg)
theorem a_keep (γ : GE) {S : List Sh} {I : AI} {J : AJ} {a : Nat} (ha : S[a]? = some csh) {f : Nat → Bool} (hc : cs J a f) {b : Nat} (hb : S[b]? = some csh) (hab : b ≠ a) {g : Nat → Bool} (hg : cs J b g) : Ct γ mX0_keep 0 0 0 [.ref a, .ref b] S I J (rS S I J a (fun x => f x && g x)) := rS_of (c_X0_keep γ ha hb hab) (cs_keep hc hg)
theorem a_drop (γ : GE) {S : List Sh} {I : AI} {J : AJ} {a : Nat} (ha : S[a]? = some csh) {f : Nat → Bool} (hc : cs J a f) {b : Nat} (hb : S[b]? = some csh) (hab : b ≠ a) {g : Nat → Bool} (hg : cs J b g) : Ct γ mX0_drop 0 0 0 [.ref a, .ref b] S I J (rS S I J a (fun x => f x && !g x)) := rS_of (c_X0_drop γ ha hb hab) (cs_drop hc hg)
theorem a_join (γ : GE) {S : List Sh} {I : AI} {J : AJ} {a : Nat} (ha : S[a]? = some csh) {f : Nat → Bool} (hc : cs J a f) {b : Nat} (hb : S[b]? = some csh) (hab : b ≠ a) {g : Nat → Bool} (hg : cs J b g) : Ct γ mX0_join 0 0 0 [.ref a, .ref b] S I J (rS S I J a (fun x => f x || g x)) := rS_of (c_X0_join γ ha hb hab) (cs_join hc hg)
theorem a_set (γ : GE) {S : List Sh} {I : AI} {J : AJ} {a : Nat} (ha : S[a]? = some csh) {f : Nat → Bool} (hc : cs J a f) {x : Nat} (hx : x < 96) {X : Int32} (eX : X = nI x) (z : Bool) {Z : Int32} (eZ : Z = bi z) : Ct γ mX0_set 0 0 0 [.ref a, .int X, .int Z] S I J (rS S I J a (fun y => if y = x then z else f y)) := by
  subst eX; subst eZ
  exact rS_of (c_X0_set γ ha (nI x) z) (cs_set hc hx z)
theorem a_has (γ : GE) {S : List Sh} {I : AI} {J : AJ} {a : Nat} (ha : S[a]? = some csh) {f : Nat → Bool} (hc : cs J a f) {x : Nat} (hx : x < 96) {X : Int32} (eX : X = nI x) : Ct γ mX0_has 0 0 0 [.ref a, .int X] S I J (rI (bi (f x)) S I J) := by
  subst eX
  exact rI_of (c_X0_has γ ha (nI x)) (by rw [cs_has hc hx])
theorem a_size (γ : GE) {S : List Sh} {I : AI} {J : AJ} {a : Nat} (ha : S[a]? = some csh) {f : Nat → Bool} (hc : cs J a f) : Ct γ mX0_size 1 0 0 [.ref a] S I J (rI (nI (cnt f 96)) S I J) := rI_of (c_X0_size γ ha) (cs_size hc)
theorem a_with (γ : GE) {S : List Sh} {I : AI} {J : AJ} {a : Nat} (ha : S[a]? = some csh) {f : Nat → Bool} (hc : cs J a f) {b : Nat} (hb : S[b]? = some csh) {g : Nat → Bool} (hg : cs J b g) : Ct γ mX0_sizeWith 1 0 0 [.ref a, .ref b] S I J (rI (nI (cnt (fun x => f x && g x) 96)) S I J) := rI_of (c_X0_sizeWith γ ha hb) (cs_with hc hg)
theorem a_circle (γ : GE) {S : List Sh} {I : AI} {J : AJ} {a : Nat} (ha : S[a]? = some csh) {x r : Nat} (hx : x < 96) (hr : r < 12) {X R : Int32} (eX : X = nI x) (eR : R = nI r) : Ct γ mX0_circle 1 0 0 [.ref a, .int X, .int R] S I J (rS S I J a (fun y => decide (farN y x ≤ r))) := by
  subst eX; subst eR
  exact rS_of (c_X0_circle γ ha x r hx hr) (cs_circ hx hr)
theorem a_spread (γ : GE) {S : List Sh} {I : AI} {J : AJ} {a : Nat} (ha : S[a]? = some csh) {f : Nat → Bool} (hc : cs J a f) {M : Nat} (hM : M < 512) {m : Int32} (eM : m = nI M) : Ct γ mX0_spread 1 0 0 [.ref a, .int m] S I J (rS S I J a (fun y => fromN m f 96 y)) := by
  subst eM
  exact rS_of (c_X0_spread γ ha (nI M)) (cs_spr hc hM)
theorem SSm {b c : Bool} {k : Nat} (h : k < 8) : (SS b c)[8 + k]? = some csh := by
  match k, h with
  | 0, _ => rfl
  | 1, _ => rfl
  | 2, _ => rfl
  | 3, _ => rfl
  | 4, _ => rfl
  | 5, _ => rfl
  | 6, _ => rfl
  | 7, _ => rfl
theorem SSv {b c : Bool} {k : Nat} (h : k < 8) : (SS b c)[68 + k]? = some csh := by
  match k, h with
  | 0, _ => rfl
  | 1, _ => rfl
  | 2, _ => rfl
  | 3, _ => rfl
  | 4, _ => rfl
  | 5, _ => rfl
  | 6, _ => rfl
  | 7, _ => rfl
theorem L5 : ∀ k, k < 8 → ([some 8, some 9, some 10, some 11, some 12, some 13, some 14, some 15] : List (Option Nat)).getD (nI k).toNatClampNeg none = some (8 + k) := by decide +kernel
theorem L66 : ∀ k, k < 8 → ([some 68, some 69, some 70, some 71, some 72, some 73, some 74, some 75] : List (Option Nat)).getD (nI k).toNatClampNeg none = some (68 + k) := by decide +kernel
