/-! numbers: a letter that may be wanting, as an int: 0 is -1, x + 1 is x; truth as an int -/
def iv (c : Nat) : Int32 := nI c - 1
theorem iv_0 : iv 0 = -1 := by decide
theorem iv_s (x : Nat) : iv (x + 1) = nI x := nI_pred x
theorem iv_toInt {c : Nat} (h : c < 2 ^ 31) : (iv c).toInt = (c : Int) - 1 := by
  cases c with
  | zero => decide
  | succ x => rw [iv_s, nI_toInt (by omega)]; omega
theorem iv_eq {a b : Nat} (ha : a < 2 ^ 31) (hb : b < 2 ^ 31) : iv a = iv b ↔ a = b := by
  constructor
  · intro h
    have h1 := iv_toInt ha
    rw [h, iv_toInt hb] at h1
    omega
  · intro h; rw [h]
theorem iv_lt {a b : Nat} (ha : a < 2 ^ 31) (hb : b < 2 ^ 31) : iv a < iv b ↔ a < b := by
  rw [Int32.lt_iff_toInt_lt, iv_toInt ha, iv_toInt hb]; omega
theorem iv_neg {a : Nat} (ha : a < 2 ^ 31) : iv a < 0 ↔ a = 0 := by
  rw [Int32.lt_iff_toInt_lt, iv_toInt ha, Int32.toInt_zero]; omega
theorem iv_m1 {a : Nat} (ha : a < 2 ^ 31) : iv a = -1 ↔ a = 0 := by
  rw [← iv_0]; exact iv_eq ha (by omega)
theorem iv_nI {a b : Nat} (ha : a < 2 ^ 31) (hb : b < 2 ^ 30) : iv a = nI b ↔ a = b + 1 := by
  rw [← iv_s b]; exact iv_eq ha (by omega)
def bI (b : Bool) : Int32 := if b then 1 else 0
theorem bI_t : bI true = 1 := rfl
theorem bI_f : bI false = 0 := rfl
theorem bI_nar (b : Bool) : narrow .boolean (.int (bI b)) = .int (bI b) := by cases b <;> decide
theorem bI_0 {b : Bool} : bI b = 0 ↔ b = false := by cases b <;> decide
/-- a list's letter at an int -/
def atv (xs : List Nat) (i : Int32) : Nat := if i < 0 then 0 else wd_cd xs i.toNatClampNeg
theorem atv_neg {xs : List Nat} {i : Int32} (h : i < 0) : atv xs i = 0 := if_pos h
theorem atv_nI {xs : List Nat} {j : Nat} (h : j < 2 ^ 31) : atv xs (nI j) = wd_cd xs j := by
  unfold atv; rw [if_neg (nI_pos h), nI_clamp h]
theorem atv_big {xs : List Nat} {i : Int32} {n : Nat} (hn : n < 2 ^ 31) (h : nI n ≤ i) (hx : xs.length ≤ n) : atv xs i = 0 := by
  have h0 : ¬ i < 0 := fun q => by
    rw [Int32.lt_iff_toInt_lt, Int32.toInt_zero] at q
    rw [Int32.le_iff_toInt_le, nI_toInt hn] at h
    omega
  obtain ⟨j, hj, rfl⟩ := nI_of h0
  rw [atv_nI hj, wd_cd_out]
  have := (nI_leI hn hj).mp h
  omega
/-- letters are small -/
def w26 (xs : List Nat) : Prop := ∀ i, xs.getD i 0 < 26
theorem wd_cd_26 {xs : List Nat} (h : w26 xs) (i : Nat) : wd_cd xs i < 2 ^ 31 := by
  rcases Nat.lt_or_ge i xs.length with a | a
  · rw [wd_cd_in a]; have := h i; omega
  · rw [wd_cd_out a]; omega
theorem w26_nil : w26 [] := fun i => by simp
theorem w26_app {xs : List Nat} {x : Nat} (h : w26 xs) (hx : x < 26) : w26 (xs ++ [x]) := by
  intro i
  rcases Nat.lt_or_ge i xs.length with a | a
  · have := h i
    rw [List.getD_eq_getElem?_getD] at this ⊢
    rw [List.getElem?_append_left a]; exact this
  · rw [List.getD_eq_getElem?_getD, List.getElem?_append_right a]
    rcases Nat.lt_or_ge (i - xs.length) 1 with b | b
    · rw [show i - xs.length = 0 by omega]; exact hx
    · rw [List.getElem?_eq_none (by simpa using b)]; exact Nat.zero_lt_succ _
theorem w26_take {xs : List Nat} (n : Nat) (h : w26 xs) : w26 (xs.take n) := by
  intro i
  rw [List.getD_eq_getElem?_getD, List.getElem?_take]
  split
  · have := h i; rw [List.getD_eq_getElem?_getD] at this; exact this
  · exact Nat.zero_lt_succ _
theorem getD_app_l {xs : List Nat} {x i : Nat} (h : i < xs.length) : (xs ++ [x]).getD i 0 = xs.getD i 0 := by
  rw [List.getD_eq_getElem?_getD, List.getD_eq_getElem?_getD, List.getElem?_append_left h]
theorem getD_app_e (xs : List Nat) (x : Nat) : (xs ++ [x]).getD xs.length 0 = x := by
  rw [List.getD_eq_getElem?_getD, List.getElem?_append_right (Nat.le_refl _), Nat.sub_self]; rfl
theorem getD_take {xs : List Nat} {n i : Nat} (h : i < n) : (xs.take n).getD i 0 = xs.getD i 0 := by
  rw [List.getD_eq_getElem?_getD, List.getD_eq_getElem?_getD, List.getElem?_take, if_pos h]
/-- one list begins with another; two lists are one -/
def wpre (xs ys : List Nat) : Bool := decide (∀ i, i < ys.length → wd_cd xs i = wd_cd ys i)
theorem wpre_t {xs ys : List Nat} (h : ∀ i, i < ys.length → wd_cd xs i = wd_cd ys i) : wpre xs ys = true := decide_eq_true h
theorem wpre_f {xs ys : List Nat} {i : Nat} (hi : i < ys.length) (h : ¬ wd_cd xs i = wd_cd ys i) : wpre xs ys = false := decide_eq_false (fun q => h (q i hi))
theorem wd_ext {xs ys : List Nat} (h : ∀ i, wd_cd xs i = wd_cd ys i) : xs = ys := by
  apply List.ext_getElem?
  intro i
  have := h i
  unfold wd_cd at this
  cases a : xs[i]? with
  | none => cases b : ys[i]? with
    | none => rfl
    | some y => rw [a, b] at this; simp at this
  | some x => cases b : ys[i]? with
    | none => rw [a, b] at this; simp at this
    | some y => rw [a, b] at this; simp at this; rw [this]
theorem wsame_iff {xs ys : List Nat} (hl : xs.length = ys.length) : wpre xs ys = true ↔ xs = ys := by
  constructor
  · intro h
    have h := of_decide_eq_true h
    refine wd_ext (fun i => ?_)
    rcases Nat.lt_or_ge i ys.length with a | a
    · exact h i a
    · rw [wd_cd_out a, wd_cd_out (by omega)]
  · intro h; rw [h]; exact wpre_t (fun _ _ => rfl)
