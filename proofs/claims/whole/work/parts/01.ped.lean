/-! pure: the least cost of edits between two lists, from their ends; and the walk of edits -/
def ed_l : List Nat → List Nat → Nat
  | [], ys => ys.length
  | _ :: xs, [] => xs.length + 1
  | x :: xs, y :: ys => min (ed_l xs ys + if x = y then 0 else 1) (1 + min (ed_l xs (y :: ys)) (ed_l (x :: xs) ys))
termination_by xs ys => xs.length + ys.length
theorem ed_nil (ys : List Nat) : ed_l [] ys = ys.length := by rw [ed_l]
theorem ed_nilR (xs : List Nat) : ed_l xs [] = xs.length := by
  cases xs with
  | nil => rw [ed_l]
  | cons x xs => rw [ed_l]; rfl
theorem ed_cons (x : Nat) (xs : List Nat) (y : Nat) (ys : List Nat) : ed_l (x :: xs) (y :: ys) = min (ed_l xs ys + if x = y then 0 else 1) (1 + min (ed_l xs (y :: ys)) (ed_l (x :: xs) ys)) := by rw [ed_l]
/-- the cost from letter i of t on to letter j of w on -/
def ed_d (t w : List Nat) (i j : Nat) : Nat := ed_l (t.drop i) (w.drop j)
theorem ed_d_i {t w : List Nat} {i j : Nat} (h : i = t.length) : ed_d t w i j = w.length - j := by
  subst h; rw [ed_d, List.drop_length, ed_nil, List.length_drop]
theorem ed_d_j {t w : List Nat} {i j : Nat} (h : j = w.length) : ed_d t w i j = t.length - i := by
  subst h; rw [ed_d, List.drop_length, ed_nilR, List.length_drop]
theorem ed_getD {t : List Nat} {i : Nat} (h : i < t.length) : t.drop i = t.getD i 0 :: t.drop (i + 1) := by
  rw [List.drop_eq_getElem_cons h, List.getD_eq_getElem?_getD, List.getElem?_eq_getElem h]; rfl
theorem ed_d_s {t w : List Nat} {i j : Nat} (hi : i < t.length) (hj : j < w.length) : ed_d t w i j = min (ed_d t w (i + 1) (j + 1) + if t.getD i 0 = w.getD j 0 then 0 else 1) (1 + min (ed_d t w (i + 1) j) (ed_d t w i (j + 1))) := by
  have h := ed_cons (t.getD i 0) (t.drop (i + 1)) (w.getD j 0) (w.drop (j + 1))
  rw [← ed_getD hi, ← ed_getD hj] at h
  exact h
theorem ed_d_0 (t w : List Nat) : ed_d t w t.length w.length = 0 := by rw [ed_d_i rfl]; omega
theorem ed_d_le (t w : List Nat) : ∀ (n i j : Nat), t.length - i + (w.length - j) ≤ n → i ≤ t.length → j ≤ w.length → ed_d t w i j ≤ t.length - i + (w.length - j)
  | 0, i, j, h, hi, hj => by
    rw [ed_d_i (show i = t.length by omega)]; omega
  | n + 1, i, j, h, hi, hj => by
    rcases Nat.lt_or_ge i t.length with a | a
    · rcases Nat.lt_or_ge j w.length with b | b
      · rw [ed_d_s a b]
        have := ed_d_le t w n (i + 1) j (by omega) (by omega) hj
        omega
      · rw [ed_d_j (show j = w.length by omega)]; omega
    · rw [ed_d_i (show i = t.length by omega)]; omega
theorem ed_d_up (t w : List Nat) {i j : Nat} (hi : i ≤ t.length) (hj : j ≤ w.length) : ed_d t w i j ≤ t.length - i + (w.length - j) := ed_d_le t w _ i j (Nat.le_refl _) hi hj
theorem ed_d_dn {t w : List Nat} {i j : Nat} (hi : i < t.length) (hj : j ≤ w.length) : ed_d t w i j ≤ 1 + ed_d t w (i + 1) j := by
  rcases Nat.lt_or_ge j w.length with b | b
  · rw [ed_d_s hi b]; omega
  · rw [ed_d_j (show j = w.length by omega), ed_d_j (show j = w.length by omega)]; omega
theorem ed_d_rt {t w : List Nat} {i j : Nat} (hi : i ≤ t.length) (hj : j < w.length) : ed_d t w i j ≤ 1 + ed_d t w i (j + 1) := by
  rcases Nat.lt_or_ge i t.length with b | b
  · rw [ed_d_s b hj]; omega
  · rw [ed_d_i (show i = t.length by omega), ed_d_i (show i = t.length by omega)]; omega
theorem ed_d_dg {t w : List Nat} {i j : Nat} (hi : i < t.length) (hj : j < w.length) : ed_d t w i j ≤ 1 + ed_d t w (i + 1) (j + 1) := by
  rw [ed_d_s hi hj]; split <;> omega
theorem ed_d_eq {t w : List Nat} {i j : Nat} (hi : i < t.length) (hj : j < w.length) (h : t.getD i 0 = w.getD j 0) : ed_d t w i j ≤ ed_d t w (i + 1) (j + 1) := by
  rw [ed_d_s hi hj, if_pos h]; omega
/-- behind a place that is not the end: a free step, or a step that costs one -/
def ed_free (t w : List Nat) (i j : Nat) : Prop := i < t.length ∧ j < w.length ∧ t.getD i 0 = w.getD j 0 ∧ ed_d t w i j = ed_d t w (i + 1) (j + 1)
theorem ed_tight {t w : List Nat} {i j : Nat} (hi : i ≤ t.length) (hj : j ≤ w.length) (hne : ¬ (i = t.length ∧ j = w.length)) (hf : ¬ ed_free t w i j) :
    (i < t.length ∧ j < w.length ∧ ed_d t w i j = 1 + ed_d t w (i + 1) (j + 1)) ∨ (i < t.length ∧ ed_d t w i j = 1 + ed_d t w (i + 1) j) ∨ (j < w.length ∧ ed_d t w i j = 1 + ed_d t w i (j + 1)) := by
  rcases Nat.lt_or_ge i t.length with a | a
  · rcases Nat.lt_or_ge j w.length with b | b
    · have h := ed_d_s a b
      by_cases e : t.getD i 0 = w.getD j 0
      · rw [if_pos e] at h
        have : ¬ ed_d t w i j = ed_d t w (i + 1) (j + 1) := fun q => hf ⟨a, b, e, q⟩
        omega
      · rw [if_neg e] at h
        omega
    · right; left
      refine ⟨a, ?_⟩
      rw [ed_d_j (show j = w.length by omega), ed_d_j (show j = w.length by omega)]; omega
  · right; right
    refine ⟨by omega, ?_⟩
    rw [ed_d_i (show i = t.length by omega), ed_d_i (show i = t.length by omega)]; omega
/-- the first edit at (i, j): 0 keep, 1 change, 2 drop, 3 add -/
def ed_f (t w : List Nat) (i j : Nat) : Nat :=
  if i = t.length then 3 else if j = w.length then 2
  else if t.getD i 0 = w.getD j 0 ∧ ed_d t w i j = ed_d t w (i + 1) (j + 1) then 0
  else if t.getD i 0 ≠ w.getD j 0 ∧ ed_d t w i j = 1 + ed_d t w (i + 1) (j + 1) then 1
  else if ed_d t w i j = 1 + ed_d t w (i + 1) j then 2 else 3
def ed_mv (f : Nat) (q : Nat × Nat) : Nat × Nat := (if f = 3 then q.1 else q.1 + 1, if f = 2 then q.2 else q.2 + 1)
/-- where the walk stands behind k edits (it stays at the end) -/
def ed_st (t w : List Nat) : Nat → Nat × Nat
  | 0 => (0, 0)
  | k + 1 => if ed_st t w k = (t.length, w.length) then ed_st t w k else ed_mv (ed_f t w (ed_st t w k).1 (ed_st t w k).2) (ed_st t w k)
/-- the edit at step k, one more than its number; 0 behind the end -/
def ed_at (t w : List Nat) (k : Nat) : Nat := if ed_st t w k = (t.length, w.length) then 0 else ed_f t w (ed_st t w k).1 (ed_st t w k).2 + 1
theorem ed_f_le (t w : List Nat) (i j : Nat) : ed_f t w i j ≤ 3 := by
  unfold ed_f
  split
  · omega
  split
  · omega
  split
  · omega
  split
  · omega
  split <;> omega
/-- one edit leads on: the place stays inside, its sum grows, and the rest costs less by what the edit costs -/
theorem ed_f_ok {t w : List Nat} {i j : Nat} (hi : i ≤ t.length) (hj : j ≤ w.length) (hne : ¬ (i = t.length ∧ j = w.length)) :
    (ed_f t w i j = 0 → i < t.length ∧ j < w.length ∧ ed_d t w i j = ed_d t w (i + 1) (j + 1)) ∧ (ed_f t w i j = 1 → i < t.length ∧ j < w.length ∧ ed_d t w i j = 1 + ed_d t w (i + 1) (j + 1)) ∧ (ed_f t w i j = 2 → i < t.length ∧ ed_d t w i j = 1 + ed_d t w (i + 1) j) ∧ (ed_f t w i j = 3 → j < w.length ∧ ed_d t w i j = 1 + ed_d t w i (j + 1)) := by
  unfold ed_f
  by_cases a : i = t.length
  · rw [if_pos a]
    have h1 := ed_d_i (w := w) (j := j) a
    have h2 := ed_d_i (w := w) (j := j + 1) a
    refine ⟨fun q => ?_, fun q => ?_, fun q => ?_, fun _ => ?_⟩ <;> omega
  · rw [if_neg a]
    by_cases b : j = w.length
    · rw [if_pos b]
      have h1 := ed_d_j (t := t) (i := i) b
      have h2 := ed_d_j (t := t) (i := i + 1) b
      refine ⟨fun q => ?_, fun q => ?_, fun _ => ?_, fun q => ?_⟩ <;> omega
    · rw [if_neg b]
      have h := ed_d_s (t := t) (w := w) (i := i) (j := j) (by omega) (by omega)
      by_cases e : t.getD i 0 = w.getD j 0
      · rw [if_pos e] at h
        by_cases c1 : ed_d t w i j = ed_d t w (i + 1) (j + 1)
        · rw [if_pos ⟨e, c1⟩]
          refine ⟨fun _ => ?_, fun q => ?_, fun q => ?_, fun q => ?_⟩ <;> omega
        · rw [if_neg (fun q => c1 q.2), if_neg (fun q => q.1 e)]
          by_cases c2 : ed_d t w i j = 1 + ed_d t w (i + 1) j
          · rw [if_pos c2]; refine ⟨fun q => ?_, fun q => ?_, fun q => ?_, fun q => ?_⟩ <;> omega
          · rw [if_neg c2]; refine ⟨fun q => ?_, fun q => ?_, fun q => ?_, fun q => ?_⟩ <;> omega
      · rw [if_neg e] at h
        rw [if_neg (fun q => e q.1)]
        by_cases c1 : ed_d t w i j = 1 + ed_d t w (i + 1) (j + 1)
        · rw [if_pos ⟨e, c1⟩]
          refine ⟨fun q => ?_, fun _ => ?_, fun q => ?_, fun q => ?_⟩ <;> omega
        · rw [if_neg (fun q => c1 q.2)]
          by_cases c2 : ed_d t w i j = 1 + ed_d t w (i + 1) j
          · rw [if_pos c2]; refine ⟨fun q => ?_, fun q => ?_, fun q => ?_, fun q => ?_⟩ <;> omega
          · rw [if_neg c2]; refine ⟨fun q => ?_, fun q => ?_, fun q => ?_, fun q => ?_⟩ <;> omega
theorem ed_st_in (t w : List Nat) : ∀ k, (ed_st t w k).1 ≤ t.length ∧ (ed_st t w k).2 ≤ w.length ∧ (ed_st t w k = (t.length, w.length) ∨ k ≤ (ed_st t w k).1 + (ed_st t w k).2)
  | 0 => ⟨Nat.zero_le _, Nat.zero_le _, Or.inr (Nat.zero_le _)⟩
  | k + 1 => by
    obtain ⟨h1, h2, h3⟩ := ed_st_in t w k
    rw [ed_st]
    by_cases e : ed_st t w k = (t.length, w.length)
    · rw [if_pos e]; exact ⟨h1, h2, Or.inl e⟩
    · rw [if_neg e]
      have h3 : k ≤ (ed_st t w k).1 + (ed_st t w k).2 := h3.resolve_left e
      have hne : ¬ ((ed_st t w k).1 = t.length ∧ (ed_st t w k).2 = w.length) := fun q => e (Prod.ext q.1 q.2)
      obtain ⟨a0, a1, a2, a3⟩ := ed_f_ok h1 h2 hne
      have hle := ed_f_le t w (ed_st t w k).1 (ed_st t w k).2
      generalize ed_f t w (ed_st t w k).1 (ed_st t w k).2 = f at a0 a1 a2 a3 hle ⊢
      generalize ed_st t w k = q at h1 h2 h3 a0 a1 a2 a3 ⊢
      have hf : f = 0 ∨ f = 1 ∨ f = 2 ∨ f = 3 := by omega
      unfold ed_mv
      rcases hf with rfl | rfl | rfl | rfl
      · have := a0 rfl; exact ⟨by simp; omega, by simp; omega, Or.inr (by simp; omega)⟩
      · have := a1 rfl; exact ⟨by simp; omega, by simp; omega, Or.inr (by simp; omega)⟩
      · have := a2 rfl; exact ⟨by simp; omega, by simp; omega, Or.inr (by simp; omega)⟩
      · have := a3 rfl; exact ⟨by simp; omega, by simp; omega, Or.inr (by simp; omega)⟩
theorem ed_st_end (t w : List Nat) {k : Nat} (h : t.length + w.length ≤ k) : ed_st t w k = (t.length, w.length) := by
  obtain ⟨h1, h2, h3⟩ := ed_st_in t w k
  rcases h3 with h3 | h3
  · exact h3
  · exact Prod.ext (by simp; omega) (by simp; omega)
theorem ed_st_stay (t w : List Nat) {k : Nat} (h : ed_st t w k = (t.length, w.length)) : ∀ n, ed_st t w (k + n) = (t.length, w.length)
  | 0 => h
  | n + 1 => by rw [← Nat.add_assoc, ed_st, if_pos (ed_st_stay t w h n), ed_st_stay t w h n]
theorem ed_at_end {t w : List Nat} {k j : Nat} (h : ed_st t w k = (t.length, w.length)) (hj : k ≤ j) : ed_at t w j = 0 := by
  obtain ⟨n, rfl⟩ : ∃ n, j = k + n := ⟨j - k, by omega⟩
  rw [ed_at, if_pos (ed_st_stay t w h n)]
/-! the flood: rho p = 0 where p isn't reached, c + 1 where it was reached at cost c; p = 9 x + y -/
def bf_ok (t w : List Nat) (ds b : Nat) (rho : Nat → Nat) : Prop := ∀ p, p < 99 → rho p ≠ 0 → p / 9 ≤ t.length ∧ p % 9 ≤ w.length ∧ rho p ≤ b ∧ ds + 1 ≤ rho p + ed_d t w (p / 9) (p % 9)
def bf_at (t w : List Nat) (ds c : Nat) (rho : Nat → Nat) (p : Nat) : Prop := p < 99 ∧ rho p = c + 1 ∧ ed_d t w (p / 9) (p % 9) + c = ds
/-- the first pass at place q: a best place is still to come, or stands with no free step -/
def bf_1 (t w : List Nat) (ds c q : Nat) (rho : Nat → Nat) : Prop := ∃ p, bf_at t w ds c rho p ∧ (q ≤ p ∨ ¬ ed_free t w (p / 9) (p % 9))
/-- the second pass at place q -/
def bf_2 (t w : List Nat) (ds c q : Nat) (rho : Nat → Nat) : Prop := (∃ p, bf_at t w ds c rho p ∧ q ≤ p ∧ ¬ ed_free t w (p / 9) (p % 9) ∧ ¬ p = 9 * t.length + w.length) ∨ ∃ p, bf_at t w ds (c + 1) rho p
def bf_r (rho : Nat → Nat) (p c : Nat) : Nat → Nat := fun j => if j = p ∧ rho p = 0 then c + 1 else rho j
theorem bf_r_old {rho : Nat → Nat} {p c j : Nat} (h : rho j ≠ 0) : bf_r rho p c j = rho j := by
  unfold bf_r; split
  · next q => exact absurd (q.1 ▸ q.2) h
  · rfl
theorem bf_r_new {rho : Nat → Nat} {p c : Nat} (h : rho p = 0) : bf_r rho p c p = c + 1 := by unfold bf_r; rw [if_pos ⟨rfl, h⟩]
theorem bf_r_no {rho : Nat → Nat} {p c : Nat} (h : rho p ≠ 0) : bf_r rho p c = rho := by
  funext j; unfold bf_r; rw [if_neg (fun q => h q.2)]
theorem bf_r_ne {rho : Nat → Nat} {p c j : Nat} (h : j ≠ p) : bf_r rho p c j = rho j := by unfold bf_r; rw [if_neg (fun q => h q.1)]
theorem bf_ok_r {t w : List Nat} {ds b c p : Nat} {rho : Nat → Nat} (h : bf_ok t w ds b rho) (hx : p / 9 ≤ t.length) (hy : p % 9 ≤ w.length) (hb : c + 1 ≤ b) (hd : ds ≤ c + ed_d t w (p / 9) (p % 9)) : bf_ok t w ds b (bf_r rho p c) := by
  intro j hj hn
  by_cases e : j = p
  · subst e
    by_cases z : rho j = 0
    · rw [bf_r_new z]; exact ⟨hx, hy, hb, by omega⟩
    · rw [bf_r_no z]; exact h j hj z
  · rw [bf_r_ne e] at hn ⊢; exact h j hj hn
theorem bf_at_r {t w : List Nat} {ds c c' p q : Nat} {rho : Nat → Nat} (h : bf_at t w ds c rho p) : bf_at t w ds c (bf_r rho q c') p := by
  obtain ⟨a, b, d⟩ := h
  exact ⟨a, by rw [bf_r_old (by omega)]; exact b, d⟩
/-- a place that is reached at cost c, and from which the rest costs ds - c -/
theorem bf_hit {t w : List Nat} {ds b c p : Nat} {rho : Nat → Nat} (h : bf_ok t w ds b rho) (hb : b ≤ c + 1) (hp : p < 99) (hd : ed_d t w (p / 9) (p % 9) + c = ds) : bf_at t w ds c (bf_r rho p c) p := by
  refine ⟨hp, ?_, hd⟩
  by_cases z : rho p = 0
  · exact bf_r_new z
  · rw [bf_r_no z]
    have := h p hp z
    omega
theorem bf_10 {p m : Nat} (h : p % 9 < m) (hm : m ≤ 8) : (p + 10) / 9 = p / 9 + 1 ∧ (p + 10) % 9 = p % 9 + 1 := by omega
theorem bf_9 (p : Nat) : (p + 9) / 9 = p / 9 + 1 ∧ (p + 9) % 9 = p % 9 := by omega
theorem bf_01 {p m : Nat} (h : p % 9 < m) (hm : m ≤ 8) : (p + 1) / 9 = p / 9 ∧ (p + 1) % 9 = p % 9 + 1 := by omega
/-- the first pass, one place on -/
theorem bf_1s {t w : List Nat} {ds c q : Nat} {rho : Nat → Nat} (hw : w.length ≤ 8) (ht : t.length ≤ 10) (hok : bf_ok t w ds (c + 1) rho) (h : bf_1 t w ds c q rho) (hq : q < 99)
    (hr : rho q = c + 1) (hx : q / 9 < t.length) (hy : q % 9 < w.length) (he : t.getD (q / 9) 0 = w.getD (q % 9) 0) : bf_ok t w ds (c + 1) (bf_r rho (q + 10) c) ∧ bf_1 t w ds c (q + 1) (bf_r rho (q + 10) c) := by
  obtain ⟨x1, x2⟩ := bf_10 hy hw
  have hle := ed_d_eq hx hy he
  have hq2 := hok q hq (by omega)
  have ok2 : bf_ok t w ds (c + 1) (bf_r rho (q + 10) c) := bf_ok_r hok (by omega) (by omega) (by omega) (by rw [x1, x2]; omega)
  refine ⟨ok2, ?_⟩
  obtain ⟨p, hp, hor⟩ := h
  by_cases e : p = q
  · subst e
    by_cases f : ed_free t w (p / 9) (p % 9)
    · refine ⟨p + 10, bf_hit hok (by omega) (by omega) ?_, Or.inl (by omega)⟩
      rw [x1, x2, ← f.2.2.2]; exact hp.2.2
    · exact ⟨p, bf_at_r hp, Or.inr f⟩
  · refine ⟨p, bf_at_r hp, ?_⟩
    rcases hor with h | h
    · exact Or.inl (by omega)
    · exact Or.inr h
theorem bf_1n {t w : List Nat} {ds c q : Nat} {rho : Nat → Nat} (h : bf_1 t w ds c q rho) (hn : ¬ (rho q = c + 1 ∧ q / 9 < t.length ∧ q % 9 < w.length ∧ t.getD (q / 9) 0 = w.getD (q % 9) 0)) : bf_1 t w ds c (q + 1) rho := by
  obtain ⟨p, hp, hor⟩ := h
  by_cases e : p = q
  · subst e
    exact ⟨p, hp, Or.inr fun f => hn ⟨hp.2.1, f.1, f.2.1, f.2.2.1⟩⟩
  · refine ⟨p, hp, ?_⟩
    rcases hor with h | h
    · exact Or.inl (by omega)
    · exact Or.inr h
/-- behind the first pass: the end is reached at this cost, and that is the least; or not -/
theorem bf_mid {t w : List Nat} {ds c : Nat} {rho : Nat → Nat} (hw : w.length ≤ 8) (ht : t.length ≤ 10) (hok : bf_ok t w ds (c + 1) rho) (h : bf_1 t w ds c 99 rho) : (rho (9 * t.length + w.length) = c + 1 → c = ds) ∧ (rho (9 * t.length + w.length) ≠ c + 1 → bf_2 t w ds c 0 rho ∧ c < ds) := by
  obtain ⟨p, hp, hor⟩ := h
  have hf : ¬ ed_free t w (p / 9) (p % 9) := by
    rcases hor with h | h
    · exact absurd hp.1 (by omega)
    · exact h
  have hpr := hok p hp.1 (by have := hp.2.1; omega)
  have d1 : (9 * t.length + w.length) / 9 = t.length := by omega
  have d2 : (9 * t.length + w.length) % 9 = w.length := by omega
  refine ⟨fun e => ?_, fun e => ?_⟩
  · have := hok _ (by omega) (show rho (9 * t.length + w.length) ≠ 0 by omega)
    rw [d1, d2, ed_d_0] at this
    have := hp.2.2
    omega
  · have hne : ¬ p = 9 * t.length + w.length := fun q => e (by rw [← q]; exact hp.2.1)
    refine ⟨Or.inl ⟨p, hp, Nat.zero_le _, hf, hne⟩, ?_⟩
    have hn2 : ¬ (p / 9 = t.length ∧ p % 9 = w.length) := fun q => hne (by omega)
    have := ed_tight hpr.1 hpr.2.1 hn2 hf
    have := hp.2.2
    omega
theorem bf_2n {t w : List Nat} {ds c q : Nat} {rho : Nat → Nat} (h : bf_2 t w ds c q rho) (hn : rho q ≠ c + 1) : bf_2 t w ds c (q + 1) rho := by
  rcases h with ⟨p, hp, hq, hf⟩ | h
  · refine Or.inl ⟨p, hp, ?_, hf⟩
    by_cases e : p = q
    · subst e; exact absurd hp.2.1 hn
    · omega
  · exact Or.inr h
/-- what the second pass does at a place that was reached at cost c -/
def bf_s (t w : List Nat) (rho : Nat → Nat) (q c : Nat) : Nat → Nat :=
  let r1 := if q / 9 < t.length ∧ q % 9 < w.length then bf_r rho (q + 10) (c + 1) else rho
  let r2 := if q / 9 < t.length then bf_r r1 (q + 9) (c + 1) else r1
  if q % 9 < w.length then bf_r r2 (q + 1) (c + 1) else r2
theorem bf_2s {t w : List Nat} {ds c q : Nat} {rho : Nat → Nat} (hw : w.length ≤ 8) (ht : t.length ≤ 10) (hok : bf_ok t w ds (c + 2) rho) (h : bf_2 t w ds c q rho) (hq : q < 99) (hr : rho q = c + 1) : bf_ok t w ds (c + 2) (bf_s t w rho q c) ∧ bf_2 t w ds c (q + 1) (bf_s t w rho q c) := by
  have hq2 := hok q hq (by omega)
  unfold bf_s
  -- the first of the three
  have s1 : ∃ r1, r1 = (if q / 9 < t.length ∧ q % 9 < w.length then bf_r rho (q + 10) (c + 1) else rho) ∧ bf_ok t w ds (c + 2) r1 ∧ (∀ d p, bf_at t w ds d rho p → bf_at t w ds d r1 p) ∧ (q / 9 < t.length → q % 9 < w.length → ed_d t w (q / 9 + 1) (q % 9 + 1) + (c + 1) = ds → ∃ p, bf_at t w ds (c + 1) r1 p) := by
    by_cases a : q / 9 < t.length ∧ q % 9 < w.length
    · obtain ⟨x1, x2⟩ := bf_10 a.2 hw
      have := ed_d_dg a.1 a.2
      refine ⟨_, rfl, ?_⟩
      rw [if_pos a]
      refine ⟨bf_ok_r hok (by omega) (by omega) (by omega) (by rw [x1, x2]; omega), fun d p h => bf_at_r h, fun _ _ e => ⟨q + 10, bf_hit hok (by omega) (by omega) (by rw [x1, x2]; exact e)⟩⟩
    · refine ⟨_, rfl, ?_⟩
      rw [if_neg a]
      exact ⟨hok, fun d p h => h, fun x y _ => absurd ⟨x, y⟩ a⟩
  obtain ⟨r1, e1, ok1, k1, n1⟩ := s1
  rw [← e1]
  have s2 : ∃ r2, r2 = (if q / 9 < t.length then bf_r r1 (q + 9) (c + 1) else r1) ∧ bf_ok t w ds (c + 2) r2 ∧ (∀ d p, bf_at t w ds d r1 p → bf_at t w ds d r2 p) ∧ (q / 9 < t.length → ed_d t w (q / 9 + 1) (q % 9) + (c + 1) = ds → ∃ p, bf_at t w ds (c + 1) r2 p) := by
    by_cases a : q / 9 < t.length
    · obtain ⟨x1, x2⟩ := bf_9 q
      have := ed_d_dn a hq2.2.1
      refine ⟨_, rfl, ?_⟩
      rw [if_pos a]
      refine ⟨bf_ok_r ok1 (by omega) (by omega) (by omega) (by rw [x1, x2]; omega), fun d p h => bf_at_r h, fun _ e => ⟨q + 9, bf_hit ok1 (by omega) (by omega) (by rw [x1, x2]; exact e)⟩⟩
    · refine ⟨_, rfl, ?_⟩
      rw [if_neg a]
      exact ⟨ok1, fun d p h => h, fun x _ => absurd x a⟩
  obtain ⟨r2, e2, ok2, k2, n2⟩ := s2
  have s3 : ∃ r3, r3 = (if q % 9 < w.length then bf_r r2 (q + 1) (c + 1) else r2) ∧ bf_ok t w ds (c + 2) r3 ∧ (∀ d p, bf_at t w ds d r2 p → bf_at t w ds d r3 p) ∧ (q % 9 < w.length → ed_d t w (q / 9) (q % 9 + 1) + (c + 1) = ds → ∃ p, bf_at t w ds (c + 1) r3 p) := by
    by_cases a : q % 9 < w.length
    · obtain ⟨x1, x2⟩ := bf_01 a hw
      have := ed_d_rt hq2.1 a
      refine ⟨_, rfl, ?_⟩
      rw [if_pos a]
      refine ⟨bf_ok_r ok2 (by omega) (by omega) (by omega) (by rw [x1, x2]; omega), fun d p h => bf_at_r h, fun _ e => ⟨q + 1, bf_hit ok2 (by omega) (by omega) (by rw [x1, x2]; exact e)⟩⟩
    · refine ⟨_, rfl, ?_⟩
      rw [if_neg a]
      exact ⟨ok2, fun d p h => h, fun x _ => absurd x a⟩
  obtain ⟨r3, e3, ok3, k3, n3⟩ := s3
  dsimp only
  rw [← e2, ← e3]
  refine ⟨ok3, ?_⟩
  rcases h with ⟨p, hp, hqp, hf, hne⟩ | ⟨p, hp⟩
  · by_cases e : p = q
    · subst e
      right
      have hn2 : ¬ (p / 9 = t.length ∧ p % 9 = w.length) := fun q => hne (by omega)
      have hd := hp.2.2
      rcases ed_tight hq2.1 hq2.2.1 hn2 hf with ⟨a, b, z⟩ | ⟨a, z⟩ | ⟨a, z⟩
      · obtain ⟨p', h'⟩ := n1 a b (by omega)
        exact ⟨p', k3 _ _ (k2 _ _ h')⟩
      · obtain ⟨p', h'⟩ := n2 a (by omega)
        exact ⟨p', k3 _ _ h'⟩
      · exact n3 a (by omega)
    · exact Or.inl ⟨p, k3 _ _ (k2 _ _ (k1 _ _ hp)), by omega, hf, hne⟩
  · exact Or.inr ⟨p, k3 _ _ (k2 _ _ (k1 _ _ hp))⟩
theorem bf_end {t w : List Nat} {ds c : Nat} {rho : Nat → Nat} (h : bf_2 t w ds c 99 rho) : bf_1 t w ds (c + 1) 0 rho := by
  rcases h with ⟨p, hp, hq, -⟩ | ⟨p, hp⟩
  · exact absurd hp.1 (by omega)
  · exact ⟨p, hp, Or.inl (Nat.zero_le _)⟩
theorem bf_ok_up {t w : List Nat} {ds b b' : Nat} {rho : Nat → Nat} (h : bf_ok t w ds b rho) (hb : b ≤ b') : bf_ok t w ds b' rho := fun p hp hn => by
  have := h p hp hn; omega
theorem bf_0 {t w : List Nat} {i j : Nat} (hw : w.length ≤ 8) (ht : t.length ≤ 10) (hi : i ≤ t.length) (hj : j ≤ w.length) : bf_ok t w (ed_d t w i j) 1 (fun p => if p = 9 * i + j then 1 else 0) ∧ bf_1 t w (ed_d t w i j) 0 0 (fun p => if p = 9 * i + j then 1 else 0) := by
  have d1 : (9 * i + j) / 9 = i := by omega
  have d2 : (9 * i + j) % 9 = j := by omega
  refine ⟨fun p hp hn => ?_, 9 * i + j, ⟨by omega, by simp, by rw [d1, d2]; omega⟩, Or.inl (Nat.zero_le _)⟩
  by_cases e : p = 9 * i + j
  · subst e; dsimp only; rw [d1, d2, if_pos rfl]; omega
  · dsimp only at hn; rw [if_neg e] at hn; exact absurd rfl hn
