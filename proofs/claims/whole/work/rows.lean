section
/-! pure: the least cost of edits between two lists, from their ends; and the walk of edits -/
def ed_l : List Nat → List Nat → Nat
  | [], ys => ys.length
  | _ :: xs, [] => xs.length + 1
  | x :: xs, y :: ys => min (ed_l xs ys + if x = y then 0 else 1) (1 + min (ed_l xs (y :: ys)) (ed_l (x :: xs) ys))
termination_by xs ys => xs.length + ys.length
theorem ed_nil (ys : List Nat) : ed_l [] ys = ys.length := by rw [ed_l]
theorem ed_nilR (xs : List Nat) : ed_l xs [] = xs.length := by
  cases xs with
  | nil => rw [ed_l]
  | cons x xs => rw [ed_l]; rfl
theorem ed_cons (x : Nat) (xs : List Nat) (y : Nat) (ys : List Nat) : ed_l (x :: xs) (y :: ys) = min (ed_l xs ys + if x = y then 0 else 1) (1 + min (ed_l xs (y :: ys)) (ed_l (x :: xs) ys)) := by rw [ed_l]
/-- the cost from letter i of t on to letter j of w on -/
def ed_d (t w : List Nat) (i j : Nat) : Nat := ed_l (t.drop i) (w.drop j)
theorem ed_d_i {t w : List Nat} {i j : Nat} (h : i = t.length) : ed_d t w i j = w.length - j := by
  subst h; rw [ed_d, List.drop_length, ed_nil, List.length_drop]
theorem ed_d_j {t w : List Nat} {i j : Nat} (h : j = w.length) : ed_d t w i j = t.length - i := by
  subst h; rw [ed_d, List.drop_length, ed_nilR, List.length_drop]
theorem ed_getD {t : List Nat} {i : Nat} (h : i < t.length) : t.drop i = t.getD i 0 :: t.drop (i + 1) := by
  rw [List.drop_eq_getElem_cons h, List.getD_eq_getElem?_getD, List.getElem?_eq_getElem h]; rfl
theorem ed_d_s {t w : List Nat} {i j : Nat} (hi : i < t.length) (hj : j < w.length) : ed_d t w i j = min (ed_d t w (i + 1) (j + 1) + if t.getD i 0 = w.getD j 0 then 0 else 1) (1 + min (ed_d t w (i + 1) j) (ed_d t w i (j + 1))) := by
  have h := ed_cons (t.getD i 0) (t.drop (i + 1)) (w.getD j 0) (w.drop (j + 1))
  rw [← ed_getD hi, ← ed_getD hj] at h
  exact h
theorem ed_d_0 (t w : List Nat) : ed_d t w t.length w.length = 0 := by rw [ed_d_i rfl]; omega
theorem ed_d_le (t w : List Nat) : ∀ (n i j : Nat), t.length - i + (w.length - j) ≤ n → i ≤ t.length → j ≤ w.length → ed_d t w i j ≤ t.length - i + (w.length - j)
  | 0, i, j, h, hi, hj => by
    rw [ed_d_i (show i = t.length by omega)]; omega
  | n + 1, i, j, h, hi, hj => by
    rcases Nat.lt_or_ge i t.length with a | a
    · rcases Nat.lt_or_ge j w.length with b | b
      · rw [ed_d_s a b]
        have := ed_d_le t w n (i + 1) j (by omega) (by omega) hj
        omega
      · rw [ed_d_j (show j = w.length by omega)]; omega
    · rw [ed_d_i (show i = t.length by omega)]; omega
theorem ed_d_up (t w : List Nat) {i j : Nat} (hi : i ≤ t.length) (hj : j ≤ w.length) : ed_d t w i j ≤ t.length - i + (w.length - j) := ed_d_le t w _ i j (Nat.le_refl _) hi hj
theorem ed_d_dn {t w : List Nat} {i j : Nat} (hi : i < t.length) (hj : j ≤ w.length) : ed_d t w i j ≤ 1 + ed_d t w (i + 1) j := by
  rcases Nat.lt_or_ge j w.length with b | b
  · rw [ed_d_s hi b]; omega
  · rw [ed_d_j (show j = w.length by omega), ed_d_j (show j = w.length by omega)]; omega
theorem ed_d_rt {t w : List Nat} {i j : Nat} (hi : i ≤ t.length) (hj : j < w.length) : ed_d t w i j ≤ 1 + ed_d t w i (j + 1) := by
  rcases Nat.lt_or_ge i t.length with b | b
  · rw [ed_d_s b hj]; omega
  · rw [ed_d_i (show i = t.length by omega), ed_d_i (show i = t.length by omega)]; omega
theorem ed_d_dg {t w : List Nat} {i j : Nat} (hi : i < t.length) (hj : j < w.length) : ed_d t w i j ≤ 1 + ed_d t w (i + 1) (j + 1) := by
  rw [ed_d_s hi hj]; split <;> omega
theorem ed_d_eq {t w : List Nat} {i j : Nat} (hi : i < t.length) (hj : j < w.length) (h : t.getD i 0 = w.getD j 0) : ed_d t w i j ≤ ed_d t w (i + 1) (j + 1) := by
  rw [ed_d_s hi hj, if_pos h]; omega
/-- behind a place that is not the end: a free step, or a step that costs one -/
def ed_free (t w : List Nat) (i j : Nat) : Prop := i < t.length ∧ j < w.length ∧ t.getD i 0 = w.getD j 0 ∧ ed_d t w i j = ed_d t w (i + 1) (j + 1)
theorem ed_tight {t w : List Nat} {i j : Nat} (hi : i ≤ t.length) (hj : j ≤ w.length) (hne : ¬ (i = t.length ∧ j = w.length)) (hf : ¬ ed_free t w i j) :
    (i < t.length ∧ j < w.length ∧ ed_d t w i j = 1 + ed_d t w (i + 1) (j + 1)) ∨ (i < t.length ∧ ed_d t w i j = 1 + ed_d t w (i + 1) j) ∨ (j < w.length ∧ ed_d t w i j = 1 + ed_d t w i (j + 1)) := by
  rcases Nat.lt_or_ge i t.length with a | a
  · rcases Nat.lt_or_ge j w.length with b | b
    · have h := ed_d_s a b
      by_cases e : t.getD i 0 = w.getD j 0
      · rw [if_pos e] at h
        have : ¬ ed_d t w i j = ed_d t w (i + 1) (j + 1) := fun q => hf ⟨a, b, e, q⟩
        omega
      · rw [if_neg e] at h
        omega
    · right; left
      refine ⟨a, ?_⟩
      rw [ed_d_j (show j = w.length by omega), ed_d_j (show j = w.length by omega)]; omega
  · right; right
    refine ⟨by omega, ?_⟩
    rw [ed_d_i (show i = t.length by omega), ed_d_i (show i = t.length by omega)]; omega
/-- the first edit at (i, j): 0 keep, 1 change, 2 drop, 3 add -/
def ed_f (t w : List Nat) (i j : Nat) : Nat :=
  if i = t.length then 3 else if j = w.length then 2
  else if t.getD i 0 = w.getD j 0 ∧ ed_d t w i j = ed_d t w (i + 1) (j + 1) then 0
  else if t.getD i 0 ≠ w.getD j 0 ∧ ed_d t w i j = 1 + ed_d t w (i + 1) (j + 1) then 1
  else if ed_d t w i j = 1 + ed_d t w (i + 1) j then 2 else 3
def ed_mv (f : Nat) (q : Nat × Nat) : Nat × Nat := (if f = 3 then q.1 else q.1 + 1, if f = 2 then q.2 else q.2 + 1)
/-- where the walk stands behind k edits (it stays at the end) -/
def ed_st (t w : List Nat) : Nat → Nat × Nat
  | 0 => (0, 0)
  | k + 1 => if ed_st t w k = (t.length, w.length) then ed_st t w k else ed_mv (ed_f t w (ed_st t w k).1 (ed_st t w k).2) (ed_st t w k)
/-- the edit at step k, one more than its number; 0 behind the end -/
def ed_at (t w : List Nat) (k : Nat) : Nat := if ed_st t w k = (t.length, w.length) then 0 else ed_f t w (ed_st t w k).1 (ed_st t w k).2 + 1
theorem ed_f_le (t w : List Nat) (i j : Nat) : ed_f t w i j ≤ 3 := by
  unfold ed_f
  split
  · omega
  split
  · omega
  split
  · omega
  split
  · omega
  split <;> omega
/-- one edit leads on: the place stays inside, its sum grows, and the rest costs less by what the edit costs -/
theorem ed_f_ok {t w : List Nat} {i j : Nat} (hi : i ≤ t.length) (hj : j ≤ w.length) (hne : ¬ (i = t.length ∧ j = w.length)) :
    (ed_f t w i j = 0 → i < t.length ∧ j < w.length ∧ ed_d t w i j = ed_d t w (i + 1) (j + 1)) ∧ (ed_f t w i j = 1 → i < t.length ∧ j < w.length ∧ ed_d t w i j = 1 + ed_d t w (i + 1) (j + 1)) ∧ (ed_f t w i j = 2 → i < t.length ∧ ed_d t w i j = 1 + ed_d t w (i + 1) j) ∧ (ed_f t w i j = 3 → j < w.length ∧ ed_d t w i j = 1 + ed_d t w i (j + 1)) := by
  unfold ed_f
  by_cases a : i = t.length
  · rw [if_pos a]
    have h1 := ed_d_i (w := w) (j := j) a
    have h2 := ed_d_i (w := w) (j := j + 1) a
    refine ⟨fun q => ?_, fun q => ?_, fun q => ?_, fun _ => ?_⟩ <;> omega
  · rw [if_neg a]
    by_cases b : j = w.length
    · rw [if_pos b]
      have h1 := ed_d_j (t := t) (i := i) b
      have h2 := ed_d_j (t := t) (i := i + 1) b
      refine ⟨fun q => ?_, fun q => ?_, fun _ => ?_, fun q => ?_⟩ <;> omega
    · rw [if_neg b]
      have h := ed_d_s (t := t) (w := w) (i := i) (j := j) (by omega) (by omega)
      by_cases e : t.getD i 0 = w.getD j 0
      · rw [if_pos e] at h
        by_cases c1 : ed_d t w i j = ed_d t w (i + 1) (j + 1)
        · rw [if_pos ⟨e, c1⟩]
          refine ⟨fun _ => ?_, fun q => ?_, fun q => ?_, fun q => ?_⟩ <;> omega
        · rw [if_neg (fun q => c1 q.2), if_neg (fun q => q.1 e)]
          by_cases c2 : ed_d t w i j = 1 + ed_d t w (i + 1) j
          · rw [if_pos c2]; refine ⟨fun q => ?_, fun q => ?_, fun q => ?_, fun q => ?_⟩ <;> omega
          · rw [if_neg c2]; refine ⟨fun q => ?_, fun q => ?_, fun q => ?_, fun q => ?_⟩ <;> omega
      · rw [if_neg e] at h
        rw [if_neg (fun q => e q.1)]
        by_cases c1 : ed_d t w i j = 1 + ed_d t w (i + 1) (j + 1)
        · rw [if_pos ⟨e, c1⟩]
          refine ⟨fun q => ?_, fun _ => ?_, fun q => ?_, fun q => ?_⟩ <;> omega
        · rw [if_neg (fun q => c1 q.2)]
          by_cases c2 : ed_d t w i j = 1 + ed_d t w (i + 1) j
          · rw [if_pos c2]; refine ⟨fun q => ?_, fun q => ?_, fun q => ?_, fun q => ?_⟩ <;> omega
          · rw [if_neg c2]; refine ⟨fun q => ?_, fun q => ?_, fun q => ?_, fun q => ?_⟩ <;> omega
theorem ed_st_in (t w : List Nat) : ∀ k, (ed_st t w k).1 ≤ t.length ∧ (ed_st t w k).2 ≤ w.length ∧ (ed_st t w k = (t.length, w.length) ∨ k ≤ (ed_st t w k).1 + (ed_st t w k).2)
  | 0 => ⟨Nat.zero_le _, Nat.zero_le _, Or.inr (Nat.zero_le _)⟩
  | k + 1 => by
    obtain ⟨h1, h2, h3⟩ := ed_st_in t w k
    rw [ed_st]
    by_cases e : ed_st t w k = (t.length, w.length)
    · rw [if_pos e]; exact ⟨h1, h2, Or.inl e⟩
    · rw [if_neg e]
      have h3 : k ≤ (ed_st t w k).1 + (ed_st t w k).2 := h3.resolve_left e
      have hne : ¬ ((ed_st t w k).1 = t.length ∧ (ed_st t w k).2 = w.length) := fun q => e (Prod.ext q.1 q.2)
      obtain ⟨a0, a1, a2, a3⟩ := ed_f_ok h1 h2 hne
      have hle := ed_f_le t w (ed_st t w k).1 (ed_st t w k).2
      generalize ed_f t w (ed_st t w k).1 (ed_st t w k).2 = f at a0 a1 a2 a3 hle ⊢
      generalize ed_st t w k = q at h1 h2 h3 a0 a1 a2 a3 ⊢
      have hf : f = 0 ∨ f = 1 ∨ f = 2 ∨ f = 3 := by omega
      unfold ed_mv
      rcases hf with rfl | rfl | rfl | rfl
      · have := a0 rfl; exact ⟨by simp; omega, by simp; omega, Or.inr (by simp; omega)⟩
      · have := a1 rfl; exact ⟨by simp; omega, by simp; omega, Or.inr (by simp; omega)⟩
      · have := a2 rfl; exact ⟨by simp; omega, by simp; omega, Or.inr (by simp; omega)⟩
      · have := a3 rfl; exact ⟨by simp; omega, by simp; omega, Or.inr (by simp; omega)⟩
theorem ed_st_end (t w : List Nat) {k : Nat} (h : t.length + w.length ≤ k) : ed_st t w k = (t.length, w.length) := by
  obtain ⟨h1, h2, h3⟩ := ed_st_in t w k
  rcases h3 with h3 | h3
  · exact h3
  · exact Prod.ext (by simp; omega) (by simp; omega)
theorem ed_st_stay (t w : List Nat) {k : Nat} (h : ed_st t w k = (t.length, w.length)) : ∀ n, ed_st t w (k + n) = (t.length, w.length)
  | 0 => h
  | n + 1 => by rw [← Nat.add_assoc, ed_st, if_pos (ed_st_stay t w h n), ed_st_stay t w h n]
theorem ed_at_end {t w : List Nat} {k j : Nat} (h : ed_st t w k = (t.length, w.length)) (hj : k ≤ j) : ed_at t w j = 0 := by
  obtain ⟨n, rfl⟩ : ∃ n, j = k + n := ⟨j - k, by omega⟩
  rw [ed_at, if_pos (ed_st_stay t w h n)]
/-! the flood: rho p = 0 where p isn't reached, c + 1 where it was reached at cost c; p = 9 x + y -/
def bf_ok (t w : List Nat) (ds b : Nat) (rho : Nat → Nat) : Prop := ∀ p, p < 99 → rho p ≠ 0 → p / 9 ≤ t.length ∧ p % 9 ≤ w.length ∧ rho p ≤ b ∧ ds + 1 ≤ rho p + ed_d t w (p / 9) (p % 9)
def bf_at (t w : List Nat) (ds c : Nat) (rho : Nat → Nat) (p : Nat) : Prop := p < 99 ∧ rho p = c + 1 ∧ ed_d t w (p / 9) (p % 9) + c = ds
/-- the first pass at place q: a best place is still to come, or stands with no free step -/
def bf_1 (t w : List Nat) (ds c q : Nat) (rho : Nat → Nat) : Prop := ∃ p, bf_at t w ds c rho p ∧ (q ≤ p ∨ ¬ ed_free t w (p / 9) (p % 9))
/-- the second pass at place q -/
def bf_2 (t w : List Nat) (ds c q : Nat) (rho : Nat → Nat) : Prop := (∃ p, bf_at t w ds c rho p ∧ q ≤ p ∧ ¬ ed_free t w (p / 9) (p % 9) ∧ ¬ p = 9 * t.length + w.length) ∨ ∃ p, bf_at t w ds (c + 1) rho p
def bf_r (rho : Nat → Nat) (p c : Nat) : Nat → Nat := fun j => if j = p ∧ rho p = 0 then c + 1 else rho j
theorem bf_r_old {rho : Nat → Nat} {p c j : Nat} (h : rho j ≠ 0) : bf_r rho p c j = rho j := by
  unfold bf_r; split
  · next q => exact absurd (q.1 ▸ q.2) h
  · rfl
theorem bf_r_new {rho : Nat → Nat} {p c : Nat} (h : rho p = 0) : bf_r rho p c p = c + 1 := by unfold bf_r; rw [if_pos ⟨rfl, h⟩]
theorem bf_r_no {rho : Nat → Nat} {p c : Nat} (h : rho p ≠ 0) : bf_r rho p c = rho := by
  funext j; unfold bf_r; rw [if_neg (fun q => h q.2)]
theorem bf_r_ne {rho : Nat → Nat} {p c j : Nat} (h : j ≠ p) : bf_r rho p c j = rho j := by unfold bf_r; rw [if_neg (fun q => h q.1)]
theorem bf_ok_r {t w : List Nat} {ds b c p : Nat} {rho : Nat → Nat} (h : bf_ok t w ds b rho) (hx : p / 9 ≤ t.length) (hy : p % 9 ≤ w.length) (hb : c + 1 ≤ b) (hd : ds ≤ c + ed_d t w (p / 9) (p % 9)) : bf_ok t w ds b (bf_r rho p c) := by
  intro j hj hn
  by_cases e : j = p
  · subst e
    by_cases z : rho j = 0
    · rw [bf_r_new z]; exact ⟨hx, hy, hb, by omega⟩
    · rw [bf_r_no z]; exact h j hj z
  · rw [bf_r_ne e] at hn ⊢; exact h j hj hn
theorem bf_at_r {t w : List Nat} {ds c c' p q : Nat} {rho : Nat → Nat} (h : bf_at t w ds c rho p) : bf_at t w ds c (bf_r rho q c') p := by
  obtain ⟨a, b, d⟩ := h
  exact ⟨a, by rw [bf_r_old (by omega)]; exact b, d⟩
/-- a place that is reached at cost c, and from which the rest costs ds - c -/
theorem bf_hit {t w : List Nat} {ds b c p : Nat} {rho : Nat → Nat} (h : bf_ok t w ds b rho) (hb : b ≤ c + 1) (hp : p < 99) (hd : ed_d t w (p / 9) (p % 9) + c = ds) : bf_at t w ds c (bf_r rho p c) p := by
  refine ⟨hp, ?_, hd⟩
  by_cases z : rho p = 0
  · exact bf_r_new z
  · rw [bf_r_no z]
    have := h p hp z
    omega
theorem bf_10 {p m : Nat} (h : p % 9 < m) (hm : m ≤ 8) : (p + 10) / 9 = p / 9 + 1 ∧ (p + 10) % 9 = p % 9 + 1 := by omega
theorem bf_9 (p : Nat) : (p + 9) / 9 = p / 9 + 1 ∧ (p + 9) % 9 = p % 9 := by omega
theorem bf_01 {p m : Nat} (h : p % 9 < m) (hm : m ≤ 8) : (p + 1) / 9 = p / 9 ∧ (p + 1) % 9 = p % 9 + 1 := by omega
/-- the first pass, one place on -/
theorem bf_1s {t w : List Nat} {ds c q : Nat} {rho : Nat → Nat} (hw : w.length ≤ 8) (ht : t.length ≤ 10) (hok : bf_ok t w ds (c + 1) rho) (h : bf_1 t w ds c q rho) (hq : q < 99)
    (hr : rho q = c + 1) (hx : q / 9 < t.length) (hy : q % 9 < w.length) (he : t.getD (q / 9) 0 = w.getD (q % 9) 0) : bf_ok t w ds (c + 1) (bf_r rho (q + 10) c) ∧ bf_1 t w ds c (q + 1) (bf_r rho (q + 10) c) := by
  obtain ⟨x1, x2⟩ := bf_10 hy hw
  have hle := ed_d_eq hx hy he
  have hq2 := hok q hq (by omega)
  have ok2 : bf_ok t w ds (c + 1) (bf_r rho (q + 10) c) := bf_ok_r hok (by omega) (by omega) (by omega) (by rw [x1, x2]; omega)
  refine ⟨ok2, ?_⟩
  obtain ⟨p, hp, hor⟩ := h
  by_cases e : p = q
  · subst e
    by_cases f : ed_free t w (p / 9) (p % 9)
    · refine ⟨p + 10, bf_hit hok (by omega) (by omega) ?_, Or.inl (by omega)⟩
      rw [x1, x2, ← f.2.2.2]; exact hp.2.2
    · exact ⟨p, bf_at_r hp, Or.inr f⟩
  · refine ⟨p, bf_at_r hp, ?_⟩
    rcases hor with h | h
    · exact Or.inl (by omega)
    · exact Or.inr h
theorem bf_1n {t w : List Nat} {ds c q : Nat} {rho : Nat → Nat} (h : bf_1 t w ds c q rho) (hn : ¬ (rho q = c + 1 ∧ q / 9 < t.length ∧ q % 9 < w.length ∧ t.getD (q / 9) 0 = w.getD (q % 9) 0)) : bf_1 t w ds c (q + 1) rho := by
  obtain ⟨p, hp, hor⟩ := h
  by_cases e : p = q
  · subst e
    exact ⟨p, hp, Or.inr fun f => hn ⟨hp.2.1, f.1, f.2.1, f.2.2.1⟩⟩
  · refine ⟨p, hp, ?_⟩
    rcases hor with h | h
    · exact Or.inl (by omega)
    · exact Or.inr h
/-- behind the first pass: the end is reached at this cost, and that is the least; or not -/
theorem bf_mid {t w : List Nat} {ds c : Nat} {rho : Nat → Nat} (hw : w.length ≤ 8) (ht : t.length ≤ 10) (hok : bf_ok t w ds (c + 1) rho) (h : bf_1 t w ds c 99 rho) : (rho (9 * t.length + w.length) = c + 1 → c = ds) ∧ (rho (9 * t.length + w.length) ≠ c + 1 → bf_2 t w ds c 0 rho ∧ c < ds) := by
  obtain ⟨p, hp, hor⟩ := h
  have hf : ¬ ed_free t w (p / 9) (p % 9) := by
    rcases hor with h | h
    · exact absurd hp.1 (by omega)
    · exact h
  have hpr := hok p hp.1 (by have := hp.2.1; omega)
  have d1 : (9 * t.length + w.length) / 9 = t.length := by omega
  have d2 : (9 * t.length + w.length) % 9 = w.length := by omega
  refine ⟨fun e => ?_, fun e => ?_⟩
  · have := hok _ (by omega) (show rho (9 * t.length + w.length) ≠ 0 by omega)
    rw [d1, d2, ed_d_0] at this
    have := hp.2.2
    omega
  · have hne : ¬ p = 9 * t.length + w.length := fun q => e (by rw [← q]; exact hp.2.1)
    refine ⟨Or.inl ⟨p, hp, Nat.zero_le _, hf, hne⟩, ?_⟩
    have hn2 : ¬ (p / 9 = t.length ∧ p % 9 = w.length) := fun q => hne (by omega)
    have := ed_tight hpr.1 hpr.2.1 hn2 hf
    have := hp.2.2
    omega
theorem bf_2n {t w : List Nat} {ds c q : Nat} {rho : Nat → Nat} (h : bf_2 t w ds c q rho) (hn : rho q ≠ c + 1) : bf_2 t w ds c (q + 1) rho := by
  rcases h with ⟨p, hp, hq, hf⟩ | h
  · refine Or.inl ⟨p, hp, ?_, hf⟩
    by_cases e : p = q
    · subst e; exact absurd hp.2.1 hn
    · omega
  · exact Or.inr h
/-- what the second pass does at a place that was reached at cost c -/
def bf_s (t w : List Nat) (rho : Nat → Nat) (q c : Nat) : Nat → Nat :=
  let r1 := if q / 9 < t.length ∧ q % 9 < w.length then bf_r rho (q + 10) (c + 1) else rho
  let r2 := if q / 9 < t.length then bf_r r1 (q + 9) (c + 1) else r1
  if q % 9 < w.length then bf_r r2 (q + 1) (c + 1) else r2
theorem bf_2s {t w : List Nat} {ds c q : Nat} {rho : Nat → Nat} (hw : w.length ≤ 8) (ht : t.length ≤ 10) (hok : bf_ok t w ds (c + 2) rho) (h : bf_2 t w ds c q rho) (hq : q < 99) (hr : rho q = c + 1) : bf_ok t w ds (c + 2) (bf_s t w rho q c) ∧ bf_2 t w ds c (q + 1) (bf_s t w rho q c) := by
  have hq2 := hok q hq (by omega)
  unfold bf_s
  -- the first of the three
  have s1 : ∃ r1, r1 = (if q / 9 < t.length ∧ q % 9 < w.length then bf_r rho (q + 10) (c + 1) else rho) ∧ bf_ok t w ds (c + 2) r1 ∧ (∀ d p, bf_at t w ds d rho p → bf_at t w ds d r1 p) ∧ (q / 9 < t.length → q % 9 < w.length → ed_d t w (q / 9 + 1) (q % 9 + 1) + (c + 1) = ds → ∃ p, bf_at t w ds (c + 1) r1 p) := by
    by_cases a : q / 9 < t.length ∧ q % 9 < w.length
    · obtain ⟨x1, x2⟩ := bf_10 a.2 hw
      have := ed_d_dg a.1 a.2
      refine ⟨_, rfl, ?_⟩
      rw [if_pos a]
      refine ⟨bf_ok_r hok (by omega) (by omega) (by omega) (by rw [x1, x2]; omega), fun d p h => bf_at_r h, fun _ _ e => ⟨q + 10, bf_hit hok (by omega) (by omega) (by rw [x1, x2]; exact e)⟩⟩
    · refine ⟨_, rfl, ?_⟩
      rw [if_neg a]
      exact ⟨hok, fun d p h => h, fun x y _ => absurd ⟨x, y⟩ a⟩
  obtain ⟨r1, e1, ok1, k1, n1⟩ := s1
  rw [← e1]
  have s2 : ∃ r2, r2 = (if q / 9 < t.length then bf_r r1 (q + 9) (c + 1) else r1) ∧ bf_ok t w ds (c + 2) r2 ∧ (∀ d p, bf_at t w ds d r1 p → bf_at t w ds d r2 p) ∧ (q / 9 < t.length → ed_d t w (q / 9 + 1) (q % 9) + (c + 1) = ds → ∃ p, bf_at t w ds (c + 1) r2 p) := by
    by_cases a : q / 9 < t.length
    · obtain ⟨x1, x2⟩ := bf_9 q
      have := ed_d_dn a hq2.2.1
      refine ⟨_, rfl, ?_⟩
      rw [if_pos a]
      refine ⟨bf_ok_r ok1 (by omega) (by omega) (by omega) (by rw [x1, x2]; omega), fun d p h => bf_at_r h, fun _ e => ⟨q + 9, bf_hit ok1 (by omega) (by omega) (by rw [x1, x2]; exact e)⟩⟩
    · refine ⟨_, rfl, ?_⟩
      rw [if_neg a]
      exact ⟨ok1, fun d p h => h, fun x _ => absurd x a⟩
  obtain ⟨r2, e2, ok2, k2, n2⟩ := s2
  have s3 : ∃ r3, r3 = (if q % 9 < w.length then bf_r r2 (q + 1) (c + 1) else r2) ∧ bf_ok t w ds (c + 2) r3 ∧ (∀ d p, bf_at t w ds d r2 p → bf_at t w ds d r3 p) ∧ (q % 9 < w.length → ed_d t w (q / 9) (q % 9 + 1) + (c + 1) = ds → ∃ p, bf_at t w ds (c + 1) r3 p) := by
    by_cases a : q % 9 < w.length
    · obtain ⟨x1, x2⟩ := bf_01 a hw
      have := ed_d_rt hq2.1 a
      refine ⟨_, rfl, ?_⟩
      rw [if_pos a]
      refine ⟨bf_ok_r ok2 (by omega) (by omega) (by omega) (by rw [x1, x2]; omega), fun d p h => bf_at_r h, fun _ e => ⟨q + 1, bf_hit ok2 (by omega) (by omega) (by rw [x1, x2]; exact e)⟩⟩
    · refine ⟨_, rfl, ?_⟩
      rw [if_neg a]
      exact ⟨ok2, fun d p h => h, fun x _ => absurd x a⟩
  obtain ⟨r3, e3, ok3, k3, n3⟩ := s3
  dsimp only
  rw [← e2, ← e3]
  refine ⟨ok3, ?_⟩
  rcases h with ⟨p, hp, hqp, hf, hne⟩ | ⟨p, hp⟩
  · by_cases e : p = q
    · subst e
      right
      have hn2 : ¬ (p / 9 = t.length ∧ p % 9 = w.length) := fun q => hne (by omega)
      have hd := hp.2.2
      rcases ed_tight hq2.1 hq2.2.1 hn2 hf with ⟨a, b, z⟩ | ⟨a, z⟩ | ⟨a, z⟩
      · obtain ⟨p', h'⟩ := n1 a b (by omega)
        exact ⟨p', k3 _ _ (k2 _ _ h')⟩
      · obtain ⟨p', h'⟩ := n2 a (by omega)
        exact ⟨p', k3 _ _ h'⟩
      · exact n3 a (by omega)
    · exact Or.inl ⟨p, k3 _ _ (k2 _ _ (k1 _ _ hp)), by omega, hf, hne⟩
  · exact Or.inr ⟨p, k3 _ _ (k2 _ _ (k1 _ _ hp))⟩
theorem bf_end {t w : List Nat} {ds c : Nat} {rho : Nat → Nat} (h : bf_2 t w ds c 99 rho) : bf_1 t w ds (c + 1) 0 rho := by
  rcases h with ⟨p, hp, hq, -⟩ | ⟨p, hp⟩
  · exact absurd hp.1 (by omega)
  · exact ⟨p, hp, Or.inl (Nat.zero_le _)⟩
theorem bf_ok_up {t w : List Nat} {ds b b' : Nat} {rho : Nat → Nat} (h : bf_ok t w ds b rho) (hb : b ≤ b') : bf_ok t w ds b' rho := fun p hp hn => by
  have := h p hp hn; omega
theorem bf_0 {t w : List Nat} {i j : Nat} (hw : w.length ≤ 8) (ht : t.length ≤ 10) (hi : i ≤ t.length) (hj : j ≤ w.length) : bf_ok t w (ed_d t w i j) 1 (fun p => if p = 9 * i + j then 1 else 0) ∧ bf_1 t w (ed_d t w i j) 0 0 (fun p => if p = 9 * i + j then 1 else 0) := by
  have d1 : (9 * i + j) / 9 = i := by omega
  have d2 : (9 * i + j) % 9 = j := by omega
  refine ⟨fun p hp hn => ?_, 9 * i + j, ⟨by omega, by simp, by rw [d1, d2]; omega⟩, Or.inl (Nat.zero_le _)⟩
  by_cases e : p = 9 * i + j
  · subst e; dsimp only; rw [d1, d2, if_pos rfl]; omega
  · dsimp only at hn; rw [if_neg e] at hn; exact absurd rfl hn
end
section
/-! pure: the order of words, the dictionary in order and out of order, places -/
def wd_cd (xs : List Nat) (i : Nat) : Nat := match xs[i]? with
  | some x => x + 1
  | none => 0
theorem wd_cd_in {xs : List Nat} {i : Nat} (h : i < xs.length) : wd_cd xs i = xs.getD i 0 + 1 := by
  unfold wd_cd; rw [List.getD_eq_getElem?_getD, List.getElem?_eq_getElem h]; rfl
theorem wd_cd_out {xs : List Nat} {i : Nat} (h : xs.length ≤ i) : wd_cd xs i = 0 := by
  unfold wd_cd; rw [List.getElem?_eq_none h]
def wd_lt : List Nat → List Nat → Bool
  | _, [] => false
  | [], _ :: _ => true
  | x :: xs, y :: ys => if x = y then wd_lt xs ys else decide (x < y)
theorem wd_lt_nilR (xs : List Nat) : wd_lt xs [] = false := by cases xs <;> rfl
theorem wd_lt_nilL (y : Nat) (ys : List Nat) : wd_lt [] (y :: ys) = true := rfl
theorem wd_lt_cons (x y : Nat) (xs ys : List Nat) : wd_lt (x :: xs) (y :: ys) = if x = y then wd_lt xs ys else decide (x < y) := rfl
theorem wd_dropG {t : List Nat} {i : Nat} (h : i < t.length) : t.drop i = t.getD i 0 :: t.drop (i + 1) := by
  rw [List.drop_eq_getElem_cons h, List.getD_eq_getElem?_getD, List.getElem?_eq_getElem h]; rfl
theorem wd_lt_s (xs ys : List Nat) (i : Nat) : wd_lt (xs.drop i) (ys.drop i) = if wd_cd xs i = wd_cd ys i then wd_lt (xs.drop (i + 1)) (ys.drop (i + 1)) else decide (wd_cd xs i < wd_cd ys i) := by
  rcases Nat.lt_or_ge i xs.length with a | a
  · rcases Nat.lt_or_ge i ys.length with b | b
    · rw [wd_dropG a, wd_dropG b, wd_lt_cons, wd_cd_in a, wd_cd_in b]
      by_cases e : xs.getD i 0 = ys.getD i 0
      · rw [if_pos e, if_pos (by rw [e])]
      · rw [if_neg e, if_neg (by omega)]
        exact decide_eq_decide.mpr (by omega)
    · rw [List.drop_eq_nil_of_le b, wd_lt_nilR, wd_cd_in a, wd_cd_out b, if_neg (by omega)]
      simp
  · rcases Nat.lt_or_ge i ys.length with b | b
    · rw [List.drop_eq_nil_of_le a, wd_dropG b, wd_lt_nilL, wd_cd_out a, wd_cd_in b, if_neg (by omega)]
      simp
    · rw [wd_cd_out a, wd_cd_out b, if_pos rfl, List.drop_eq_nil_of_le b, List.drop_eq_nil_of_le (show ys.length ≤ i + 1 by omega), wd_lt_nilR, wd_lt_nilR]
theorem wd_irr : ∀ xs : List Nat, wd_lt xs xs = false
  | [] => rfl
  | x :: xs => by rw [wd_lt_cons, if_pos rfl]; exact wd_irr xs
theorem wd_trans : ∀ {xs ys zs : List Nat}, wd_lt xs ys = true → wd_lt ys zs = true → wd_lt xs zs = true
  | xs, ys, [], _, h => by rw [wd_lt_nilR] at h; cases h
  | [], ys, z :: zs, _, _ => rfl
  | x :: xs, [], z :: zs, h, _ => by rw [wd_lt_nilR] at h; cases h
  | x :: xs, y :: ys, z :: zs, h1, h2 => by
    rw [wd_lt_cons] at h1 h2 ⊢
    by_cases a : x = y
    · subst a
      rw [if_pos rfl] at h1
      by_cases b : x = z
      · rw [if_pos b] at h2 ⊢; exact wd_trans h1 h2
      · rw [if_neg b] at h2 ⊢; exact h2
    · rw [if_neg a] at h1
      have h1 := of_decide_eq_true h1
      by_cases b : y = z
      · subst b; rw [if_neg a]; exact decide_eq_true h1
      · rw [if_neg b] at h2
        have h2 := of_decide_eq_true h2
        rw [if_neg (by omega)]; exact decide_eq_true (by omega)
theorem wd_tot : ∀ {xs ys : List Nat}, xs ≠ ys → wd_lt xs ys = true ∨ wd_lt ys xs = true
  | [], [], h => absurd rfl h
  | [], _ :: _, _ => Or.inl rfl
  | _ :: _, [], _ => Or.inr rfl
  | x :: xs, y :: ys, h => by
    rw [wd_lt_cons, wd_lt_cons]
    by_cases a : x = y
    · subst a
      rw [if_pos rfl, if_pos rfl]
      exact wd_tot (fun e => h (by rw [e]))
    · rw [if_neg a, if_neg (Ne.symm a)]
      rcases Nat.lt_or_ge x y with b | b
      · exact Or.inl (decide_eq_true b)
      · exact Or.inr (decide_eq_true (by omega))
theorem wd_asym {xs ys : List Nat} (h : wd_lt xs ys = true) : wd_lt ys xs = false := by
  cases e : wd_lt ys xs with
  | false => rfl
  | true => have := wd_trans h e; rw [wd_irr] at this; cases this
abbrev wd_W : Type := List Nat × Nat
/-- which of two words is told first: less far, then more often learned, then the order of words -/
def wd_bt (d : wd_W → Nat) (v w : wd_W) : Bool := if d v = d w then (if v.2 = w.2 then wd_lt v.1 w.1 else decide (w.2 < v.2)) else decide (d v < d w)
theorem wd_bt_irr (d : wd_W → Nat) (v : wd_W) : wd_bt d v v = false := by unfold wd_bt; rw [if_pos rfl, if_pos rfl, wd_irr]
theorem wd_bt_iff (d : wd_W → Nat) (v w : wd_W) : wd_bt d v w = true ↔ d v < d w ∨ (d v = d w ∧ (w.2 < v.2 ∨ (v.2 = w.2 ∧ wd_lt v.1 w.1 = true))) := by
  unfold wd_bt
  by_cases a : d v = d w
  · rw [if_pos a]
    by_cases b : v.2 = w.2
    · rw [if_pos b]
      constructor
      · intro h; exact Or.inr ⟨a, Or.inr ⟨b, h⟩⟩
      · rintro (h | ⟨-, h | ⟨-, h⟩⟩)
        · omega
        · omega
        · exact h
    · rw [if_neg b, decide_eq_true_iff]; omega
  · rw [if_neg a, decide_eq_true_iff]; omega
theorem wd_bt_trans {d : wd_W → Nat} {u v w : wd_W} (h1 : wd_bt d u v = true) (h2 : wd_bt d v w = true) : wd_bt d u w = true := by
  rw [wd_bt_iff] at h1 h2 ⊢
  rcases h1 with a | ⟨a, a2 | ⟨a2, a3⟩⟩ <;> rcases h2 with b | ⟨b, b2 | ⟨b2, b3⟩⟩
  · left; omega
  · left; omega
  · left; omega
  · left; omega
  · right; exact ⟨by omega, Or.inl (by omega)⟩
  · right; exact ⟨by omega, Or.inl (by omega)⟩
  · left; omega
  · right; exact ⟨by omega, Or.inl (by omega)⟩
  · right; exact ⟨by omega, Or.inr ⟨by omega, wd_trans a3 b3⟩⟩
theorem wd_bt_tot {d : wd_W → Nat} {v w : wd_W} (h : v.1 ≠ w.1) : wd_bt d v w = true ∨ wd_bt d w v = true := by
  rw [wd_bt_iff, wd_bt_iff]
  rcases Nat.lt_trichotomy (d v) (d w) with a | a | a
  · exact Or.inl (Or.inl a)
  · rcases Nat.lt_trichotomy v.2 w.2 with b | b | b
    · exact Or.inr (Or.inr ⟨a.symm, Or.inl b⟩)
    · rcases wd_tot h with c | c
      · exact Or.inl (Or.inr ⟨a, Or.inr ⟨b, c⟩⟩)
      · exact Or.inr (Or.inr ⟨a.symm, Or.inr ⟨b.symm, c⟩⟩)
    · exact Or.inl (Or.inr ⟨a, Or.inl b⟩)
  · exact Or.inr (Or.inl a)
theorem wd_cp_lt {α : Type} {p r : α → Bool} : ∀ {l : List α}, (∀ x ∈ l, p x = true → r x = true) → (∃ x, x ∈ l ∧ r x = true ∧ p x = false) → l.countP p < l.countP r
  | [], _, ⟨x, h, _⟩ => by cases h
  | a :: l, h, ⟨x, hx, h1, h2⟩ => by
    have hl : ∀ x ∈ l, p x = true → r x = true := fun x hx => h x (List.mem_cons_of_mem _ hx)
    have hle : l.countP p ≤ l.countP r := List.countP_mono_left hl
    rw [List.countP_cons, List.countP_cons]
    rcases List.mem_cons.mp hx with e | e
    · subst e
      rw [h1, h2]; simp; omega
    · have := wd_cp_lt hl ⟨x, e, h1, h2⟩
      have := h a List.mem_cons_self
      cases pa : p a with
      | false => simp; omega
      | true => rw [this pa]; simp; omega
/-- no two words are told at the same place -/
theorem wd_uniq {l : List wd_W} {d : wd_W → Nat} {q : wd_W → Bool} {v w : wd_W} (hv : v ∈ l) (hw : w ∈ l) (qv : q v = true) (qw : q w = true) (h : l.countP (fun u => q u && wd_bt d u v) = l.countP (fun u => q u && wd_bt d u w)) : v.1 = w.1 := by
  have key : ∀ {v w : wd_W}, v ∈ l → q v = true → wd_bt d v w = true → l.countP (fun u => q u && wd_bt d u v) < l.countP (fun u => q u && wd_bt d u w) := by
    intro v w hv qv hb
    refine wd_cp_lt (fun x _ hx => ?_) ⟨v, hv, ?_, ?_⟩
    · simp only [Bool.and_eq_true] at hx ⊢
      exact ⟨hx.1, wd_bt_trans hx.2 hb⟩
    · simp only [Bool.and_eq_true]; exact ⟨qv, hb⟩
    · rw [wd_bt_irr]; simp
  apply Classical.byContradiction
  intro hne
  rcases wd_bt_tot (d := d) hne with a | a
  · have := key hv qv a; omega
  · have := key hw qw a; omega
/-- the words in their order, each once -/
def wd_so (l : List wd_W) : Prop := l.Pairwise (fun a b => wd_lt a.1 b.1 = true)
theorem wd_rank : ∀ {l : List wd_W} {k : Nat} {w : wd_W}, wd_so l → l[k]? = some w → l.countP (fun v => wd_lt v.1 w.1) = k
  | [], k, w, _, h => by simp at h
  | a :: l, 0, w, hs, h => by
    have hs := List.pairwise_cons.mp hs
    rw [List.getElem?_cons_zero] at h
    cases h
    rw [List.countP_cons, wd_irr]
    have : l.countP (fun v => wd_lt v.1 a.1) = 0 := by
      rw [List.countP_eq_zero]
      intro b hb
      rw [wd_asym (hs.1 b hb)]; simp
    rw [this]; rfl
  | a :: l, k + 1, w, hs, h => by
    have hs := List.pairwise_cons.mp hs
    rw [List.getElem?_cons_succ] at h
    rw [List.countP_cons, wd_rank hs.2 h, hs.1 w (List.mem_of_getElem? h)]
    rfl
theorem wd_once {l : List wd_W} (hs : wd_so l) {i j : Nat} {v w : wd_W} (hi : l[i]? = some v) (hj : l[j]? = some w) (h : v.1 = w.1) : i = j := by
  rw [← wd_rank hs hi, ← wd_rank hs hj, h]
/-- the answer of suggest and of complete -/
def wd_sug (l : List wd_W) (d : wd_W → Nat) (q : wd_W → Bool) (i r : Int32) : Prop := (∃ k v, l[k]? = some v ∧ q v = true ∧ i = nI (l.countP (fun u => q u && wd_bt d u v)) ∧ r = nI k) ∨ (r = -1 ∧ ∀ v ∈ l, q v = true → ¬ i = nI (l.countP (fun u => q u && wd_bt d u v)))
theorem wd_sug_one {l : List wd_W} {d : wd_W → Nat} {q : wd_W → Bool} {i r r' : Int32} (hs : wd_so l) (hl : l.length < 2 ^ 31) (h : wd_sug l d q i r) (h' : wd_sug l d q i r') : r = r' := by
  rcases h with ⟨k, v, h1, h2, h3, h4⟩ | ⟨h1, h2⟩
  · rcases h' with ⟨k', v', g1, g2, g3, g4⟩ | ⟨g1, g2⟩
    · have hv := List.mem_of_getElem? h1
      have hv' := List.mem_of_getElem? g1
      have e : l.countP (fun u => q u && wd_bt d u v) = l.countP (fun u => q u && wd_bt d u v') := by
        have c1 : l.countP (fun u => q u && wd_bt d u v) ≤ l.length := List.countP_le_length
        have c2 : l.countP (fun u => q u && wd_bt d u v') ≤ l.length := List.countP_le_length
        exact (nI_eq (by omega) (by omega)).mp (h3.symm.trans g3)
      have := wd_once hs h1 g1 (wd_uniq hv hv' h2 g2 e)
      rw [h4, g4, this]
    · exact absurd h3 (g2 v (List.mem_of_getElem? h1) h2)
  · rcases h' with ⟨k', v', g1, g2, g3, g4⟩ | ⟨g1, g2⟩
    · exact absurd g3 (h2 v' (List.mem_of_getElem? g1) g2)
    · rw [h1, g1]
/-- a new word at its place -/
theorem wd_ins : ∀ {l : List wd_W} {x : wd_W}, wd_so l → (∀ v ∈ l, v.1 ≠ x.1) → wd_so (l.take (l.countP (fun v => wd_lt v.1 x.1)) ++ x :: l.drop (l.countP (fun v => wd_lt v.1 x.1)))
  | [], x, _, _ => by simp [wd_so]
  | a :: l, x, hs, hn => by
    have hs := List.pairwise_cons.mp hs
    have hn' : ∀ v ∈ l, v.1 ≠ x.1 := fun v hv => hn v (List.mem_cons_of_mem _ hv)
    rcases wd_tot (hn a List.mem_cons_self) with h | h
    · have ih := wd_ins hs.2 hn'
      rw [List.countP_cons, h]
      show wd_so ((a :: l).take (l.countP (fun v => wd_lt v.1 x.1) + 1) ++ x :: (a :: l).drop (l.countP (fun v => wd_lt v.1 x.1) + 1))
      rw [List.take_succ_cons, List.drop_succ_cons, List.cons_append]
      refine List.pairwise_cons.mpr ⟨fun b hb => ?_, ih⟩
      rcases List.mem_append.mp hb with hb | hb
      · exact hs.1 b (List.mem_of_mem_take hb)
      · rcases List.mem_cons.mp hb with rfl | hb
        · exact h
        · exact hs.1 b (List.mem_of_mem_drop hb)
    · have z : (a :: l).countP (fun v => wd_lt v.1 x.1) = 0 := by
        rw [List.countP_eq_zero]
        intro b hb
        rcases List.mem_cons.mp hb with rfl | hb
        · rw [wd_asym h]; simp
        · rw [wd_asym (wd_trans h (hs.1 b hb))]; simp
      rw [z, List.take_zero, List.drop_zero, List.nil_append]
      refine List.pairwise_cons.mpr ⟨fun b hb => ?_, List.pairwise_cons.mpr hs⟩
      rcases List.mem_cons.mp hb with rfl | hb
      · exact h
      · exact wd_trans h (hs.1 b hb)
theorem wd_ins_perm {l m : List wd_W} (h : l.Perm m) (x : wd_W) (p : Nat) : (l.take p ++ x :: l.drop p).Perm (m ++ [x]) := by
  refine List.perm_middle.trans ?_
  rw [List.take_append_drop]
  exact (List.Perm.cons x h).trans (List.perm_append_comm (l₁ := [x]))
theorem wd_er : ∀ {α : Type} {l : List α} {k : Nat} {x : α}, l[k]? = some x → l.Perm (x :: l.eraseIdx k)
  | _, [], k, x, h => by simp at h
  | _, a :: l, 0, x, h => by rw [List.getElem?_cons_zero] at h; cases h; exact List.Perm.refl _
  | _, a :: l, k + 1, x, h => by
    rw [List.getElem?_cons_succ] at h
    rw [List.eraseIdx_cons_succ]
    exact (List.Perm.cons a (wd_er h)).trans (List.Perm.swap x a _)
theorem wd_st : ∀ {α : Type} {l : List α} {k : Nat} (y : α), k < l.length → (l.set k y).Perm (y :: l.eraseIdx k)
  | _, [], k, y, h => by simp at h
  | _, a :: l, 0, y, _ => List.Perm.refl _
  | _, a :: l, k + 1, y, h => by
    rw [List.set_cons_succ, List.eraseIdx_cons_succ]
    exact (List.Perm.cons a (wd_st y (by simpa using h))).trans (List.Perm.swap y a _)
theorem wd_er2 {l m : List wd_W} {k w : Nat} {x : wd_W} (h : l.Perm m) (hl : l[k]? = some x) (hm : m[w]? = some x) : (l.eraseIdx k).Perm (m.eraseIdx w) :=
  List.Perm.cons_inv (a := x) ((wd_er hl).symm.trans (h.trans (wd_er hm)))
theorem wd_lt_of {α : Type} {l : List α} {k : Nat} {x : α} (h : l[k]? = some x) : k < l.length := (List.getElem?_eq_some_iff.mp h).1
theorem wd_set2 {l m : List wd_W} {k w : Nat} {x : wd_W} (y : wd_W) (h : l.Perm m) (hl : l[k]? = some x) (hm : m[w]? = some x) : (l.set k y).Perm (m.set w y) :=
  (wd_st y (wd_lt_of hl)).trans ((List.Perm.cons y (wd_er2 h hl hm)).trans (wd_st y (wd_lt_of hm)).symm)
/-- the last word into the gap, one word fewer -/
def wd_rm (m : List wd_W) (w : Nat) : List wd_W := (m.set w (m.getD (m.length - 1) ([], 0))).take (m.length - 1)
theorem wd_rm_perm {m : List wd_W} {w : Nat} (hw : w < m.length) : (wd_rm m w).Perm (m.eraseIdx w) := by
  obtain ⟨L, b, hm⟩ := (List.eq_nil_or_concat m).resolve_left (fun e => by subst e; simp at hw)
  rw [List.concat_eq_append] at hm
  subst hm
  have hl : (L ++ [b]).length - 1 = L.length := by simp
  have hb : (L ++ [b]).getD L.length ([], 0) = b := by simp
  unfold wd_rm
  rw [hl, hb]
  rcases Nat.lt_or_ge w L.length with a | a
  · rw [List.set_append_left _ _ a, List.take_left' (by simp), List.eraseIdx_append_of_lt_length a]
    exact (wd_st b a).trans (List.perm_append_comm (l₁ := [b]))
  · have e : w = L.length := by simp at hw; omega
    subst e
    rw [List.set_append_right _ _ (Nat.le_refl _), List.take_left' rfl, List.eraseIdx_append_of_length_le (Nat.le_refl _)]
    simp
theorem wd_rm_len (m : List wd_W) (w : Nat) : (wd_rm m w).length = m.length - 1 := by
  unfold wd_rm; rw [List.length_take, List.length_set]; omega
theorem wd_so_er {l : List wd_W} (k : Nat) (h : wd_so l) : wd_so (l.eraseIdx k) := List.Pairwise.sublist (List.eraseIdx_sublist l k) h
theorem wd_so_set {l : List wd_W} {k : Nat} {x y : wd_W} (h : wd_so l) (hk : l[k]? = some x) (e : y.1 = x.1) : wd_so (l.set k y) := by
  have hm : (l.set k y).map Prod.fst = l.map Prod.fst := by
    rw [List.map_set, e]
    apply List.ext_getElem?
    intro i
    by_cases q : i = k
    · subst q
      have hl : i < (l.map Prod.fst).length := by rw [List.length_map]; exact wd_lt_of hk
      rw [List.getElem?_set_self hl, List.getElem?_map, hk]; rfl
    · rw [List.getElem?_set_ne (Ne.symm q)]
  have h1 : (l.map Prod.fst).Pairwise (fun a b => wd_lt a b = true) := List.pairwise_map.mpr h
  rw [← hm] at h1
  exact List.pairwise_map.mp h1
theorem wd_mem {l m : List wd_W} (h : l.Perm m) {w : Nat} {x : wd_W} (hw : m[w]? = some x) : ∃ k : Nat, l[k]? = some x := List.getElem?_of_mem (h.mem_iff.mpr (List.mem_of_getElem? hw))
/-- ranks follow the order of words -/
theorem wd_lt_rank {l : List wd_W} (hs : wd_so l) {a b : Nat} {v w : wd_W} (ha : l[a]? = some v) (hb : l[b]? = some w) : wd_lt v.1 w.1 = decide (a < b) := by
  have key : ∀ {a b : Nat} {v w : wd_W}, l[a]? = some v → l[b]? = some w → a < b → wd_lt v.1 w.1 = true := by
    intro a b v w ha hb hab
    obtain ⟨la, ea⟩ := List.getElem?_eq_some_iff.mp ha
    obtain ⟨lb, eb⟩ := List.getElem?_eq_some_iff.mp hb
    have := List.pairwise_iff_getElem.mp hs a b la lb hab
    rw [ea, eb] at this
    exact this
  rcases Nat.lt_trichotomy a b with h | h | h
  · rw [key ha hb h, decide_eq_true h]
  · subst h
    cases ha.symm.trans hb
    rw [wd_irr, decide_eq_false (by omega)]
  · rw [wd_asym (key hb ha h), decide_eq_false (by omega)]
/-- whatever is told before a word is no farther than it -/
theorem wd_cnt_q {l : List wd_W} {d : wd_W → Nat} {dd : Int32} {v : wd_W} (hd : ∀ u, d u < 2 ^ 30) (hq : nI (d v) ≤ dd) : l.countP (fun u => wd_bt d u v) = l.countP (fun u => decide (nI (d u) ≤ dd) && wd_bt d u v) := by
  refine List.countP_congr (fun u _ => ⟨fun h => ?_, fun h => ?_⟩)
  · have h2 := (wd_bt_iff d u v).mp h
    have hle : d u ≤ d v := by omega
    have h3 : nI (d u) ≤ nI (d v) := nI_le hle (by have := hd v; omega)
    rw [Bool.and_eq_true]
    exact ⟨decide_eq_true (Int32.le_trans h3 hq), h⟩
  · rw [Bool.and_eq_true] at h; exact h.2
end
section
/-! pure: the different lists that are left when letters are taken out -/
def dr_L (t : List Nat) : Nat → Nat → List Nat
  | 0, 0 => [0]
  | 0, _ + 1 => []
  | e + 1, 0 => dr_L t e 0
  | e + 1, r + 1 => dr_L t e (r + 1) ++ (dr_L t e r).map (fun c => 32 * c + (t.getD e 0 + 1))
theorem dr_L0 (t : List Nat) : ∀ e, dr_L t e 0 = [0]
  | 0 => rfl
  | e + 1 => by rw [dr_L]; exact dr_L0 t e
def dr_ch : Nat → Nat → Nat
  | _, 0 => 1
  | 0, _ + 1 => 0
  | e + 1, r + 1 => dr_ch e (r + 1) + dr_ch e r
theorem dr_len (t : List Nat) : ∀ e r, (dr_L t e r).length = dr_ch e r
  | 0, 0 => rfl
  | 0, _ + 1 => rfl
  | e + 1, 0 => by rw [dr_L0]; cases e <;> rfl
  | e + 1, r + 1 => by rw [dr_L, List.length_append, List.length_map, dr_len t e (r + 1), dr_len t e r]; rfl
theorem dr_252 : ∀ e, e < 11 → ∀ r, r < 11 → dr_ch e r ≤ 252 := by decide +kernel
theorem dr_mono (t : List Nat) {r c : Nat} : ∀ {p e : Nat}, p ≤ e → c ∈ dr_L t p r → c ∈ dr_L t e r := by
  intro p e
  induction e with
  | zero => intro h hc; cases Nat.le_zero.mp h; exact hc
  | succ e ih =>
    intro h hc
    rcases Nat.lt_or_ge p (e + 1) with a | a
    · have := ih (by omega) hc
      cases r with
      | zero => rw [dr_L]; exact this
      | succ r => rw [dr_L]; exact List.mem_append_left _ this
    · cases Nat.le_antisymm h a; exact hc
theorem dr_tail (t : List Nat) (ht : ∀ i, t.getD i 0 < 26) {a : Nat} (ha : a < 26) (r c : Nat) : ∀ e, 32 * c + (a + 1) ∈ dr_L t e (r + 1) ↔ ∃ p, p < e ∧ t.getD p 0 = a ∧ c ∈ dr_L t p r
  | 0 => by
    constructor
    · intro h; rw [dr_L] at h; cases h
    · rintro ⟨p, h, -⟩; omega
  | e + 1 => by
    rw [dr_L, List.mem_append, dr_tail t ht ha r c e, List.mem_map]
    constructor
    · rintro (⟨p, h1, h2, h3⟩ | ⟨c', h1, h2⟩)
      · exact ⟨p, by omega, h2, h3⟩
      · have := ht e
        have hc : c' = c := by omega
        subst hc
        exact ⟨e, by omega, by omega, h1⟩
    · rintro ⟨p, h1, h2, h3⟩
      rcases Nat.lt_or_ge p e with a | a
      · exact Or.inl ⟨p, a, h2, h3⟩
      · have : p = e := by omega
        subst this
        exact Or.inr ⟨c, h3, by rw [h2]⟩
/-- each once, in the order of their coming -/
def dr_ad (acc : List Nat) (x : Nat) : List Nat := if x ∈ acc then acc else acc ++ [x]
def dr_u (l : List Nat) : List Nat := l.foldl dr_ad []
theorem dr_u_step (l : List Nat) (x : Nat) : dr_u (l ++ [x]) = dr_ad (dr_u l) x := by unfold dr_u; rw [List.foldl_append]; rfl
theorem dr_fold : ∀ (l acc : List Nat), acc.Nodup → (l.foldl dr_ad acc).Nodup ∧ ∀ x, x ∈ l.foldl dr_ad acc ↔ x ∈ acc ∨ x ∈ l
  | [], acc, h => ⟨h, fun x => by simp⟩
  | a :: l, acc, h => by
    rw [List.foldl_cons]
    have h2 : (dr_ad acc a).Nodup ∧ ∀ x, x ∈ dr_ad acc a ↔ x ∈ acc ∨ x = a := by
      unfold dr_ad
      by_cases e : a ∈ acc
      · rw [if_pos e]
        exact ⟨h, fun x => ⟨Or.inl, fun q => q.elim id (fun z => z ▸ e)⟩⟩
      · rw [if_neg e]
        refine ⟨?_, fun x => by simp⟩
        rw [List.nodup_append]
        exact ⟨h, by simp, fun x hx y hy hxy => by rw [List.mem_singleton] at hy; subst hy; subst hxy; exact e hx⟩
    obtain ⟨i1, i2⟩ := dr_fold l _ h2.1
    refine ⟨i1, fun x => ?_⟩
    rw [i2 x, h2.2 x, List.mem_cons, or_assoc]
theorem dr_u_nd (l : List Nat) : (dr_u l).Nodup := (dr_fold l [] List.nodup_nil).1
theorem dr_u_mem (l : List Nat) (x : Nat) : x ∈ dr_u l ↔ x ∈ l := by
  have := (dr_fold l [] List.nodup_nil).2 x
  show x ∈ l.foldl dr_ad [] ↔ x ∈ l
  rw [this]; simp
theorem dr_eqlen {a b : List Nat} (ha : a.Nodup) (hb : b.Nodup) (h : ∀ x, x ∈ a ↔ x ∈ b) : a.length = b.length := ((List.perm_ext_iff_of_nodup ha hb).mpr h).length_eq
def dr_K (t : List Nat) (e r : Nat) : Nat := (dr_u (dr_L t e r)).length
theorem dr_u_le (l : List Nat) : (dr_u l).length ≤ l.length := List.Nodup.length_le_of_subset (dr_u_nd l) (fun x hx => (dr_u_mem l x).mp hx)
theorem dr_K_le (t : List Nat) {e r : Nat} (he : e < 11) (hr : r < 11) : dr_K t e r ≤ 252 := Nat.le_trans (dr_u_le _) (by rw [dr_len]; exact dr_252 e he r hr)
theorem dr_K0 (t : List Nat) (e : Nat) : dr_K t e 0 = 1 := by unfold dr_K; rw [dr_L0]; rfl
theorem dr_K00 (t : List Nat) (r : Nat) : dr_K t 0 (r + 1) = 0 := rfl
theorem dr_map_nd {f : Nat → Nat} (hf : ∀ a b, f a = f b → a = b) : ∀ {l : List Nat}, l.Nodup → (l.map f).Nodup
  | [], _ => List.nodup_nil
  | a :: l, h => by
    rw [List.nodup_cons] at h
    rw [List.map_cons, List.nodup_cons]
    refine ⟨fun q => ?_, dr_map_nd hf h.2⟩
    obtain ⟨b, hb, e⟩ := List.mem_map.mp q
    exact h.1 (hf _ _ e ▸ hb)
/-- one letter more: the lists without it, and those that end with it, but for what was there -/
theorem dr_rec (t : List Nat) (ht : ∀ i, t.getD i 0 < 26) (e r : Nat) : ∃ P, dr_K t (e + 1) (r + 1) + P = dr_K t e (r + 1) + dr_K t e r ∧ ((∀ p, p < e → t.getD p 0 ≠ t.getD e 0) → P = 0) ∧ ∀ p, p < e → t.getD p 0 = t.getD e 0 → (∀ q, p < q → q < e → t.getD q 0 ≠ t.getD e 0) → P = dr_K t p r := by
  have ha := ht e
  generalize hae : t.getD e 0 = a at ha ⊢
  let f : Nat → Nat := fun c => 32 * c + (a + 1)
  have hf : ∀ x y, f x = f y → x = y := fun x y h => by have h : 32 * x + (a + 1) = 32 * y + (a + 1) := h; omega
  let inL : Nat → Bool := fun c => decide (f c ∈ dr_L t e (r + 1))
  have hB : ∀ c, c ∈ (dr_u (dr_L t e r)).filter inL ↔ ∃ p, p < e ∧ t.getD p 0 = a ∧ c ∈ dr_L t p r := by
    intro c
    rw [List.mem_filter, dr_u_mem, decide_eq_true_iff]
    show _ ∧ 32 * c + (a + 1) ∈ _ ↔ _
    rw [dr_tail t ht ha]
    constructor
    · exact fun h => h.2
    · rintro ⟨p, h1, h2, h3⟩
      exact ⟨dr_mono t (by omega) h3, p, h1, h2, h3⟩
  have hnB : ((dr_u (dr_L t e r)).filter inL).Nodup := List.Nodup.sublist List.filter_sublist (dr_u_nd _)
  have hnG : ((dr_u (dr_L t e r)).filter (fun c => !inL c)).Nodup := List.Nodup.sublist List.filter_sublist (dr_u_nd _)
  have hsum : ((dr_u (dr_L t e r)).filter inL).length + ((dr_u (dr_L t e r)).filter (fun c => !inL c)).length = (dr_u (dr_L t e r)).length := by
    have := (List.filter_append_perm inL (dr_u (dr_L t e r))).length_eq
    rw [List.length_append] at this
    exact this
  have hX : dr_K t (e + 1) (r + 1) = (dr_u (dr_L t e (r + 1)) ++ ((dr_u (dr_L t e r)).filter (fun c => !inL c)).map f).length := by
    refine dr_eqlen (dr_u_nd _) ?_ (fun x => ?_)
    · rw [List.nodup_append]
      refine ⟨dr_u_nd _, dr_map_nd hf hnG, fun x hx y hy hxy => ?_⟩
      subst hxy
      obtain ⟨c, hc, rfl⟩ := List.mem_map.mp hy
      rw [List.mem_filter] at hc
      rw [dr_u_mem] at hx
      have h2 := hc.2
      simp only [inL, Bool.not_eq_true', decide_eq_false_iff_not] at h2
      exact h2 hx
    · rw [dr_u_mem, dr_L, hae, List.mem_append, List.mem_append, dr_u_mem, List.mem_map, List.mem_map]
      constructor
      · rintro (h | ⟨c, h1, h2⟩)
        · exact Or.inl h
        · by_cases g : x ∈ dr_L t e (r + 1)
          · exact Or.inl g
          · refine Or.inr ⟨c, ?_, h2⟩
            rw [List.mem_filter, dr_u_mem]
            refine ⟨h1, ?_⟩
            simp only [inL, Bool.not_eq_true', decide_eq_false_iff_not]
            intro q
            exact g (h2 ▸ q)
      · rintro (h | ⟨c, h1, h2⟩)
        · exact Or.inl h
        · rw [List.mem_filter, dr_u_mem] at h1
          exact Or.inr ⟨c, h1.1, h2⟩
  rw [List.length_append, List.length_map] at hX
  refine ⟨((dr_u (dr_L t e r)).filter inL).length, ?_, fun hno => ?_, fun p hp hpa hl => ?_⟩
  · rw [hX]
    show _ = (dr_u (dr_L t e (r + 1))).length + (dr_u (dr_L t e r)).length
    omega
  · rw [List.length_eq_zero_iff, List.eq_nil_iff_forall_not_mem]
    intro c hc
    obtain ⟨p, h1, h2, -⟩ := (hB c).mp hc
    exact hno p h1 h2
  · refine dr_eqlen hnB (dr_u_nd _) (fun c => ?_)
    rw [hB c, dr_u_mem]
    constructor
    · rintro ⟨p', h1, h2, h3⟩
      refine dr_mono t ?_ h3
      apply Classical.byContradiction
      intro hgt
      exact hl p' (by omega) h1 h2
    · intro h; exact ⟨p, hp, hpa, h⟩
/-! the sets of places: a number's bits -/
def dr_b : Nat → Nat → Nat
  | 0, _ => 0
  | k + 1, s => dr_b k s + s / 2 ^ k % 2
def dr_c (t : List Nat) : Nat → Nat → Nat
  | 0, _ => 0
  | k + 1, s => if s / 2 ^ k % 2 = 1 then 32 * dr_c t k s + (t.getD k 0 + 1) else dr_c t k s
theorem dr_hi {e k s : Nat} (hk : k < e) : (s + 2 ^ e) / 2 ^ k % 2 = s / 2 ^ k % 2 := by
  have h : 2 ^ e = 2 ^ k * (2 * 2 ^ (e - k - 1)) := by
    rw [← Nat.mul_assoc, ← Nat.pow_succ, ← Nat.pow_add]; congr 1; omega
  rw [h, Nat.add_mul_div_left _ _ (Nat.two_pow_pos k)]; omega
theorem dr_b_hi {e s : Nat} : ∀ k, k ≤ e → dr_b k (s + 2 ^ e) = dr_b k s
  | 0, _ => rfl
  | k + 1, h => by rw [dr_b, dr_b, dr_b_hi k (by omega), dr_hi (by omega)]
theorem dr_c_hi {t : List Nat} {e s : Nat} : ∀ k, k ≤ e → dr_c t k (s + 2 ^ e) = dr_c t k s
  | 0, _ => rfl
  | k + 1, h => by rw [dr_c, dr_c, dr_c_hi k (by omega), dr_hi (by omega)]
theorem dr_b_lo {e s : Nat} (hs : s < 2 ^ e) : ∀ n, dr_b (e + n) s = dr_b e s
  | 0 => rfl
  | n + 1 => by
    rw [← Nat.add_assoc, dr_b, dr_b_lo hs n, Nat.div_eq_of_lt (Nat.lt_of_lt_of_le hs (Nat.pow_le_pow_right (by omega) (by omega)))]; rfl
/-- the lists of the sets below s, one after the other -/
def dr_S (t : List Nat) (e r s : Nat) : List Nat := ((List.range s).filter (fun x => decide (dr_b e x = r))).map (dr_c t e)
theorem dr_S_0 (t : List Nat) (e r : Nat) : dr_S t e r 0 = [] := rfl
theorem dr_S_s (t : List Nat) (e r s : Nat) : dr_S t e r (s + 1) = if dr_b e s = r then dr_S t e r s ++ [dr_c t e s] else dr_S t e r s := by
  unfold dr_S
  rw [List.range_succ, List.filter_append, List.map_append]
  by_cases h : dr_b e s = r
  · rw [if_pos h]; simp [h]
  · rw [if_neg h]; simp [h]
theorem dr_S_all (t : List Nat) : ∀ e r, dr_S t e r (2 ^ e) = dr_L t e r
  | 0, 0 => rfl
  | 0, r + 1 => rfl
  | e + 1, r => by
    have hr : List.range (2 ^ (e + 1)) = List.range (2 ^ e) ++ (List.range (2 ^ e)).map (fun x => x + 2 ^ e) := by
      rw [show 2 ^ (e + 1) = 2 ^ e + 2 ^ e by rw [Nat.pow_succ]; omega, List.range_add]
      congr 1
      exact List.map_congr_left (fun x _ => Nat.add_comm _ _)
    unfold dr_S
    rw [hr, List.filter_append, List.map_append, List.filter_map, List.map_map]
    have h1 : ((List.range (2 ^ e)).filter (fun x => decide (dr_b (e + 1) x = r))).map (dr_c t (e + 1)) = dr_S t e r (2 ^ e) := by
      unfold dr_S
      have : (List.range (2 ^ e)).filter (fun x => decide (dr_b (e + 1) x = r)) = (List.range (2 ^ e)).filter (fun x => decide (dr_b e x = r)) := by
        refine List.filter_congr (fun x hx => ?_)
        rw [dr_b, Nat.div_eq_of_lt (List.mem_range.mp hx)]; simp
      rw [this]
      refine List.map_congr_left (fun x hx => ?_)
      rw [dr_c, Nat.div_eq_of_lt (List.mem_range.mp ((List.mem_filter.mp hx).1)), if_neg (by simp)]
    have one : ∀ x, x < 2 ^ e → (x + 2 ^ e) / 2 ^ e % 2 = 1 := fun x hx => by
      rw [Nat.add_div_right _ (Nat.two_pow_pos e), Nat.div_eq_of_lt hx]
    rw [h1, dr_S_all t e r]
    cases r with
    | zero =>
      have h2 : (List.range (2 ^ e)).filter ((fun x => decide (dr_b (e + 1) x = 0)) ∘ fun x => x + 2 ^ e) = [] := by
        rw [List.filter_eq_nil_iff]
        intro x hx
        simp only [Function.comp, decide_eq_true_iff]
        rw [dr_b, one x (List.mem_range.mp hx)]
        omega
      rw [h2, List.map_nil, List.append_nil, dr_L]
    | succ r =>
      have h2 : (List.range (2 ^ e)).filter ((fun x => decide (dr_b (e + 1) x = r + 1)) ∘ fun x => x + 2 ^ e) = (List.range (2 ^ e)).filter (fun x => decide (dr_b e x = r)) := by
        refine List.filter_congr (fun x hx => ?_)
        simp only [Function.comp]
        rw [dr_b, one x (List.mem_range.mp hx), dr_b_hi e (Nat.le_refl _)]
        exact decide_eq_decide.mpr (by omega)
      rw [h2, dr_L, ← dr_S_all t e r]
      congr 1
      unfold dr_S
      rw [List.map_map]
      refine List.map_congr_left (fun x hx => ?_)
      simp only [Function.comp]
      rw [dr_c, one x (List.mem_range.mp ((List.mem_filter.mp hx).1)), if_pos rfl, dr_c_hi e (Nat.le_refl _)]
theorem dr_c_lt (t : List Nat) (ht : ∀ i, t.getD i 0 < 26) (s : Nat) : ∀ k, dr_c t k s < 32 ^ k
  | 0 => Nat.zero_lt_succ 0
  | k + 1 => by
    have := dr_c_lt t ht s k
    have := ht k
    rw [dr_c, Nat.pow_succ]
    split <;> omega
end
section
/-! numbers: a letter that may be wanting, as an int: 0 is -1, x + 1 is x; truth as an int -/
def iv (c : Nat) : Int32 := nI c - 1
theorem iv_0 : iv 0 = -1 := by decide
theorem iv_s (x : Nat) : iv (x + 1) = nI x := nI_pred x
theorem iv_toInt {c : Nat} (h : c < 2 ^ 31) : (iv c).toInt = (c : Int) - 1 := by
  cases c with
  | zero => decide
  | succ x => rw [iv_s, nI_toInt (by omega)]; omega
theorem iv_eq {a b : Nat} (ha : a < 2 ^ 31) (hb : b < 2 ^ 31) : iv a = iv b ↔ a = b := by
  constructor
  · intro h
    have h1 := iv_toInt ha
    rw [h, iv_toInt hb] at h1
    omega
  · intro h; rw [h]
theorem iv_lt {a b : Nat} (ha : a < 2 ^ 31) (hb : b < 2 ^ 31) : iv a < iv b ↔ a < b := by
  rw [Int32.lt_iff_toInt_lt, iv_toInt ha, iv_toInt hb]; omega
theorem iv_neg {a : Nat} (ha : a < 2 ^ 31) : iv a < 0 ↔ a = 0 := by
  rw [Int32.lt_iff_toInt_lt, iv_toInt ha, Int32.toInt_zero]; omega
theorem iv_m1 {a : Nat} (ha : a < 2 ^ 31) : iv a = -1 ↔ a = 0 := by
  rw [← iv_0]; exact iv_eq ha (by omega)
theorem iv_nI {a b : Nat} (ha : a < 2 ^ 31) (hb : b < 2 ^ 30) : iv a = nI b ↔ a = b + 1 := by
  rw [← iv_s b]; exact iv_eq ha (by omega)
def bI (b : Bool) : Int32 := if b then 1 else 0
theorem bI_t : bI true = 1 := rfl
theorem bI_f : bI false = 0 := rfl
theorem bI_nar (b : Bool) : narrow .boolean (.int (bI b)) = .int (bI b) := by cases b <;> decide
theorem bI_0 {b : Bool} : bI b = 0 ↔ b = false := by cases b <;> decide
/-- a list's letter at an int -/
def atv (xs : List Nat) (i : Int32) : Nat := if i < 0 then 0 else wd_cd xs i.toNatClampNeg
theorem atv_neg {xs : List Nat} {i : Int32} (h : i < 0) : atv xs i = 0 := if_pos h
theorem atv_nI {xs : List Nat} {j : Nat} (h : j < 2 ^ 31) : atv xs (nI j) = wd_cd xs j := by
  unfold atv; rw [if_neg (nI_pos h), nI_clamp h]
theorem atv_big {xs : List Nat} {i : Int32} {n : Nat} (hn : n < 2 ^ 31) (h : nI n ≤ i) (hx : xs.length ≤ n) : atv xs i = 0 := by
  have h0 : ¬ i < 0 := fun q => by
    rw [Int32.lt_iff_toInt_lt, Int32.toInt_zero] at q
    rw [Int32.le_iff_toInt_le, nI_toInt hn] at h
    omega
  obtain ⟨j, hj, rfl⟩ := nI_of h0
  rw [atv_nI hj, wd_cd_out]
  have := (nI_leI hn hj).mp h
  omega
/-- letters are small -/
def w26 (xs : List Nat) : Prop := ∀ i, xs.getD i 0 < 26
theorem wd_cd_26 {xs : List Nat} (h : w26 xs) (i : Nat) : wd_cd xs i < 2 ^ 31 := by
  rcases Nat.lt_or_ge i xs.length with a | a
  · rw [wd_cd_in a]; have := h i; omega
  · rw [wd_cd_out a]; omega
theorem w26_nil : w26 [] := fun i => by simp
theorem w26_app {xs : List Nat} {x : Nat} (h : w26 xs) (hx : x < 26) : w26 (xs ++ [x]) := by
  intro i
  rcases Nat.lt_or_ge i xs.length with a | a
  · have := h i
    rw [List.getD_eq_getElem?_getD] at this ⊢
    rw [List.getElem?_append_left a]; exact this
  · rw [List.getD_eq_getElem?_getD, List.getElem?_append_right a]
    rcases Nat.lt_or_ge (i - xs.length) 1 with b | b
    · rw [show i - xs.length = 0 by omega]; exact hx
    · rw [List.getElem?_eq_none (by simpa using b)]; exact Nat.zero_lt_succ _
theorem w26_take {xs : List Nat} (n : Nat) (h : w26 xs) : w26 (xs.take n) := by
  intro i
  rw [List.getD_eq_getElem?_getD, List.getElem?_take]
  split
  · have := h i; rw [List.getD_eq_getElem?_getD] at this; exact this
  · exact Nat.zero_lt_succ _
theorem getD_app_l {xs : List Nat} {x i : Nat} (h : i < xs.length) : (xs ++ [x]).getD i 0 = xs.getD i 0 := by
  rw [List.getD_eq_getElem?_getD, List.getD_eq_getElem?_getD, List.getElem?_append_left h]
theorem getD_app_e (xs : List Nat) (x : Nat) : (xs ++ [x]).getD xs.length 0 = x := by
  rw [List.getD_eq_getElem?_getD, List.getElem?_append_right (Nat.le_refl _), Nat.sub_self]; rfl
theorem getD_take {xs : List Nat} {n i : Nat} (h : i < n) : (xs.take n).getD i 0 = xs.getD i 0 := by
  rw [List.getD_eq_getElem?_getD, List.getD_eq_getElem?_getD, List.getElem?_take, if_pos h]
/-- one list begins with another; two lists are one -/
def wpre (xs ys : List Nat) : Bool := decide (∀ i, i < ys.length → wd_cd xs i = wd_cd ys i)
theorem wpre_t {xs ys : List Nat} (h : ∀ i, i < ys.length → wd_cd xs i = wd_cd ys i) : wpre xs ys = true := decide_eq_true h
theorem wpre_f {xs ys : List Nat} {i : Nat} (hi : i < ys.length) (h : ¬ wd_cd xs i = wd_cd ys i) : wpre xs ys = false := decide_eq_false (fun q => h (q i hi))
theorem wd_ext {xs ys : List Nat} (h : ∀ i, wd_cd xs i = wd_cd ys i) : xs = ys := by
  apply List.ext_getElem?
  intro i
  have := h i
  unfold wd_cd at this
  cases a : xs[i]? with
  | none => cases b : ys[i]? with
    | none => rfl
    | some y => rw [a, b] at this; simp at this
  | some x => cases b : ys[i]? with
    | none => rw [a, b] at this; simp at this
    | some y => rw [a, b] at this; simp at this; rw [this]
theorem wsame_iff {xs ys : List Nat} (hl : xs.length = ys.length) : wpre xs ys = true ↔ xs = ys := by
  constructor
  · intro h
    have h := of_decide_eq_true h
    refine wd_ext (fun i => ?_)
    rcases Nat.lt_or_ge i ys.length with a | a
    · exact h i a
    · rw [wd_cd_out a, wd_cd_out (by omega)]
  · intro h; rw [h]; exact wpre_t (fun _ _ => rfl)
end
section
-- ===== PART A: goes FIRST, ahead of the names: the tables' words, and 'selects' of the private methods out of them =====
/-- a private method of a class that the tables say can be made, by its rows of tables_1 -/
def lw_okq (q : MethodName × Nat) : Prop := (q.1.cls ≠ "java/lang/invoke/MethodHandle" ∧ q.1.cls ≠ "java/lang/invoke/VarHandle") ∧ Cond.instantiable q.1.cls q.2 ∈ tables_1 ∧ Cond.privateMethod q.1 ∈ tables_1 ∧ Cond.instanceMethod q.1 ∈ tables_1
theorem lw_p0 : lw_okq (⟨"SpellDesk$Dictionary", "placeFor", "(LSpellDesk$Letters;)I"⟩, 2) := ⟨⟨by decide +kernel, by decide +kernel⟩, List.mem_of_getElem? (i := 35) (by decide +kernel), List.mem_of_getElem? (i := 178) (by decide +kernel), List.mem_of_getElem? (i := 179) (by decide +kernel)⟩
theorem lw_p1 : lw_okq (⟨"SpellDesk$EditTable", "leastCost", "(LSpellDesk$Letters;ILSpellDesk$Letters;I)I"⟩, 1) := ⟨⟨by decide +kernel, by decide +kernel⟩, List.mem_of_getElem? (i := 67) (by decide +kernel), List.mem_of_getElem? (i := 231) (by decide +kernel), List.mem_of_getElem? (i := 232) (by decide +kernel)⟩
theorem lw_p2 : lw_okq (⟨"SpellDesk", "measureAll", "()V"⟩, 5) := ⟨⟨by decide +kernel, by decide +kernel⟩, List.mem_of_getElem? (i := 10) (by decide +kernel), List.mem_of_getElem? (i := 241) (by decide +kernel), List.mem_of_getElem? (i := 242) (by decide +kernel)⟩
theorem lw_p3 : lw_okq (⟨"SpellDesk", "placeAmongSuggestions", "(I)I"⟩, 5) := ⟨⟨by decide +kernel, by decide +kernel⟩, List.mem_of_getElem? (i := 10) (by decide +kernel), List.mem_of_getElem? (i := 249) (by decide +kernel), List.mem_of_getElem? (i := 250) (by decide +kernel)⟩
theorem lw_p4 : lw_okq (⟨"SpellDesk", "isSuggestedBefore", "(II)Z"⟩, 5) := ⟨⟨by decide +kernel, by decide +kernel⟩, List.mem_of_getElem? (i := 10) (by decide +kernel), List.mem_of_getElem? (i := 253) (by decide +kernel), List.mem_of_getElem? (i := 254) (by decide +kernel)⟩
theorem lw_p5 : lw_okq (⟨"SpellDesk", "isCompletion", "(I)Z"⟩, 5) := ⟨⟨by decide +kernel, by decide +kernel⟩, List.mem_of_getElem? (i := 10) (by decide +kernel), List.mem_of_getElem? (i := 265) (by decide +kernel), List.mem_of_getElem? (i := 266) (by decide +kernel)⟩
theorem lw_p6 : lw_okq (⟨"SpellDesk", "placeAmongCompletions", "(I)I"⟩, 5) := ⟨⟨by decide +kernel, by decide +kernel⟩, List.mem_of_getElem? (i := 10) (by decide +kernel), List.mem_of_getElem? (i := 270) (by decide +kernel), List.mem_of_getElem? (i := 271) (by decide +kernel)⟩
theorem lw_p7 : lw_okq (⟨"SpellDesk$EditTable", "firstEdit", "(LSpellDesk$Letters;ILSpellDesk$Letters;I)I"⟩, 1) := ⟨⟨by decide +kernel, by decide +kernel⟩, List.mem_of_getElem? (i := 67) (by decide +kernel), List.mem_of_getElem? (i := 283) (by decide +kernel), List.mem_of_getElem? (i := 284) (by decide +kernel)⟩
theorem lw_p8 : lw_okq (⟨"SpellDesk$DropTable", "listsWithin", "(LSpellDesk$Letters;II)I"⟩, 1) := ⟨⟨by decide +kernel, by decide +kernel⟩, List.mem_of_getElem? (i := 79) (by decide +kernel), List.mem_of_getElem? (i := 295) (by decide +kernel), List.mem_of_getElem? (i := 296) (by decide +kernel)⟩
theorem lw_p9 : lw_okq (⟨"SpellDesk$DropTable", "placeBefore", "(LSpellDesk$Letters;I)I"⟩, 1) := ⟨⟨by decide +kernel, by decide +kernel⟩, List.mem_of_getElem? (i := 79) (by decide +kernel), List.mem_of_getElem? (i := 299) (by decide +kernel), List.mem_of_getElem? (i := 300) (by decide +kernel)⟩
theorem lw_p10 : lw_okq (⟨"SpellDeskModel", "same", "()I"⟩, 8) := ⟨⟨by decide +kernel, by decide +kernel⟩, List.mem_of_getElem? (i := 304) (by decide +kernel), List.mem_of_getElem? (i := 361) (by decide +kernel), List.mem_of_getElem? (i := 362) (by decide +kernel)⟩
theorem lw_p11 : lw_okq (⟨"SpellDeskModel", "beginsTyped", "(I)Z"⟩, 8) := ⟨⟨by decide +kernel, by decide +kernel⟩, List.mem_of_getElem? (i := 304) (by decide +kernel), List.mem_of_getElem? (i := 365) (by decide +kernel), List.mem_of_getElem? (i := 366) (by decide +kernel)⟩
theorem lw_p12 : lw_okq (⟨"SpellDeskModel", "place", "(I)I"⟩, 8) := ⟨⟨by decide +kernel, by decide +kernel⟩, List.mem_of_getElem? (i := 304) (by decide +kernel), List.mem_of_getElem? (i := 373) (by decide +kernel), List.mem_of_getElem? (i := 374) (by decide +kernel)⟩
theorem lw_p13 : lw_okq (⟨"SpellDeskModel", "rankOf", "(I)I"⟩, 8) := ⟨⟨by decide +kernel, by decide +kernel⟩, List.mem_of_getElem? (i := 304) (by decide +kernel), List.mem_of_getElem? (i := 377) (by decide +kernel), List.mem_of_getElem? (i := 378) (by decide +kernel)⟩
theorem lw_p14 : lw_okq (⟨"SpellDeskModel", "before", "(II)Z"⟩, 8) := ⟨⟨by decide +kernel, by decide +kernel⟩, List.mem_of_getElem? (i := 304) (by decide +kernel), List.mem_of_getElem? (i := 381) (by decide +kernel), List.mem_of_getElem? (i := 382) (by decide +kernel)⟩
theorem lw_p15 : lw_okq (⟨"SpellDeskModel", "at", "(II)I"⟩, 8) := ⟨⟨by decide +kernel, by decide +kernel⟩, List.mem_of_getElem? (i := 304) (by decide +kernel), List.mem_of_getElem? (i := 385) (by decide +kernel), List.mem_of_getElem? (i := 386) (by decide +kernel)⟩
def lw_privs_1 : List (MethodName × Nat) := [(⟨"SpellDesk$Dictionary", "placeFor", "(LSpellDesk$Letters;)I"⟩, 2), (⟨"SpellDesk$EditTable", "leastCost", "(LSpellDesk$Letters;ILSpellDesk$Letters;I)I"⟩, 1), (⟨"SpellDesk", "measureAll", "()V"⟩, 5), (⟨"SpellDesk", "placeAmongSuggestions", "(I)I"⟩, 5), (⟨"SpellDesk", "isSuggestedBefore", "(II)Z"⟩, 5), (⟨"SpellDesk", "isCompletion", "(I)Z"⟩, 5), (⟨"SpellDesk", "placeAmongCompletions", "(I)I"⟩, 5), (⟨"SpellDesk$EditTable", "firstEdit", "(LSpellDesk$Letters;ILSpellDesk$Letters;I)I"⟩, 1), (⟨"SpellDesk$DropTable", "listsWithin", "(LSpellDesk$Letters;II)I"⟩, 1), (⟨"SpellDesk$DropTable", "placeBefore", "(LSpellDesk$Letters;I)I"⟩, 1), (⟨"SpellDeskModel", "same", "()I"⟩, 8), (⟨"SpellDeskModel", "beginsTyped", "(I)Z"⟩, 8), (⟨"SpellDeskModel", "place", "(I)I"⟩, 8), (⟨"SpellDeskModel", "rankOf", "(I)I"⟩, 8), (⟨"SpellDeskModel", "before", "(II)Z"⟩, 8), (⟨"SpellDeskModel", "at", "(II)I"⟩, 8)]
theorem lw_r1 : ∀ q ∈ lw_privs_1, lw_okq q := List.forall_mem_cons.mpr ⟨lw_p0, List.forall_mem_cons.mpr ⟨lw_p1, List.forall_mem_cons.mpr ⟨lw_p2, List.forall_mem_cons.mpr ⟨lw_p3, List.forall_mem_cons.mpr ⟨lw_p4, List.forall_mem_cons.mpr ⟨lw_p5, List.forall_mem_cons.mpr ⟨lw_p6, List.forall_mem_cons.mpr ⟨lw_p7, List.forall_mem_cons.mpr ⟨lw_p8, List.forall_mem_cons.mpr ⟨lw_p9, List.forall_mem_cons.mpr ⟨lw_p10, List.forall_mem_cons.mpr ⟨lw_p11, List.forall_mem_cons.mpr ⟨lw_p12, List.forall_mem_cons.mpr ⟨lw_p13, List.forall_mem_cons.mpr ⟨lw_p14, List.forall_mem_cons.mpr ⟨lw_p15, fun _ h => absurd h List.not_mem_nil⟩⟩⟩⟩⟩⟩⟩⟩⟩⟩⟩⟩⟩⟩⟩⟩
theorem lw_p16 : lw_okq (⟨"SpellDeskModel", "far", "(III)I"⟩, 8) := ⟨⟨by decide +kernel, by decide +kernel⟩, List.mem_of_getElem? (i := 304) (by decide +kernel), List.mem_of_getElem? (i := 409) (by decide +kernel), List.mem_of_getElem? (i := 410) (by decide +kernel)⟩
theorem lw_p17 : lw_okq (⟨"SpellDeskModel", "reach", "(II)V"⟩, 8) := ⟨⟨by decide +kernel, by decide +kernel⟩, List.mem_of_getElem? (i := 304) (by decide +kernel), List.mem_of_getElem? (i := 413) (by decide +kernel), List.mem_of_getElem? (i := 414) (by decide +kernel)⟩
theorem lw_p18 : lw_okq (⟨"SpellDeskModel", "better", "(IIII)Z"⟩, 8) := ⟨⟨by decide +kernel, by decide +kernel⟩, List.mem_of_getElem? (i := 304) (by decide +kernel), List.mem_of_getElem? (i := 425) (by decide +kernel), List.mem_of_getElem? (i := 426) (by decide +kernel)⟩
theorem lw_p19 : lw_okq (⟨"SpellDeskModel", "next", "(IIII)I"⟩, 8) := ⟨⟨by decide +kernel, by decide +kernel⟩, List.mem_of_getElem? (i := 304) (by decide +kernel), List.mem_of_getElem? (i := 437) (by decide +kernel), List.mem_of_getElem? (i := 438) (by decide +kernel)⟩
theorem lw_p20 : lw_okq (⟨"SpellDeskModel", "left", "(I)J"⟩, 8) := ⟨⟨by decide +kernel, by decide +kernel⟩, List.mem_of_getElem? (i := 304) (by decide +kernel), List.mem_of_getElem? (i := 448) (by decide +kernel), List.mem_of_getElem? (i := 449) (by decide +kernel)⟩
def lw_privs_2 : List (MethodName × Nat) := [(⟨"SpellDeskModel", "far", "(III)I"⟩, 8), (⟨"SpellDeskModel", "reach", "(II)V"⟩, 8), (⟨"SpellDeskModel", "better", "(IIII)Z"⟩, 8), (⟨"SpellDeskModel", "next", "(IIII)I"⟩, 8), (⟨"SpellDeskModel", "left", "(I)J"⟩, 8)]
theorem lw_r2 : ∀ q ∈ lw_privs_2, lw_okq q := List.forall_mem_cons.mpr ⟨lw_p16, List.forall_mem_cons.mpr ⟨lw_p17, List.forall_mem_cons.mpr ⟨lw_p18, List.forall_mem_cons.mpr ⟨lw_p19, List.forall_mem_cons.mpr ⟨lw_p20, fun _ h => absurd h List.not_mem_nil⟩⟩⟩⟩⟩
def lw_privs : List (MethodName × Nat) := lw_privs_1 ++ (lw_privs_2)
def lw_tbl : List Cond := k2_sels lw_privs ++ tables_1
theorem lw_privs_ok : ∀ q ∈ lw_privs, lw_okq q := by
  show ∀ q ∈ lw_privs_1 ++ (lw_privs_2), lw_okq q
  exact List.forall_mem_append.mpr ⟨lw_r1, lw_r2⟩

/-- the words that hold all through a run -/
def zz : List Cond := lw_tbl.filter goodWord
theorem zz_good (w : Cond) (h : w ∈ zz) : (w.onTables && w.keeps) = true ∨ ∃ ty, w = .arrayClass ty := good_of_word (List.mem_filter.mp h).2
theorem zz_in {w : Cond} (i : Nat) (h : lw_tbl[i]? = some w) (hg : goodWord w = true) : w ∈ zz := List.mem_filter.mpr ⟨List.mem_of_getElem? h, hg⟩
theorem zz_sub {w : Cond} (h : w ∈ zz) : w ∈ lw_tbl := (List.mem_filter.mp h).1

def R_S : String := "SpellDesk"
def R_M : String := "SpellDeskModel"
def R_D : String := "SpellDesk$Dictionary"
def R_R : String := "SpellDesk$DropTable"
def R_E : String := "SpellDesk$EditTable"
def R_L : String := "SpellDesk$Letters"
def R_W : String := "SpellDesk$Word"
def R_A : String := "SpellDeskLaw"
def F_L : u_T := fun k => match k with
  | 0 => ("SpellDesk$Letters", "row", "[I", true)
  | _ => ("SpellDesk$Letters", "size", "I", false)
def t_L : Nat → FieldType := fun k => match k with
  | 0 => .array .int
  | _ => .int
theorem n_L : ∀ a, a < 2 → ∀ b, b < 2 → a ≠ b → (F_L a).2.1 ≠ (F_L b).2.1 := by decide +kernel
theorem t_L_ok : ∀ k, k < 2 → parseFieldDescriptor (F_L k).2.2.1 = some (t_L k) := by decide +kernel
theorem u_L : ∀ w ∈ u_ws R_L F_L 2, w ∈ zz := by
  intro w hw
  obtain ⟨k, hk, rfl⟩ := List.mem_map.mp hw
  have hk := List.mem_range.mp hk
  match k, hk with
  | 0, _ => exact zz_in 49 (by decide +kernel) (by decide +kernel)
  | 1, _ => exact zz_in 51 (by decide +kernel) (by decide +kernel)
def F_W : u_T := fun k => match k with
  | 0 => ("SpellDesk$Word", "letters", "LSpellDesk$Letters;", true)
  | _ => ("SpellDesk$Word", "times", "I", false)
def t_W : Nat → FieldType := fun k => match k with
  | 0 => .object "SpellDesk$Letters"
  | _ => .int
theorem n_W : ∀ a, a < 2 → ∀ b, b < 2 → a ≠ b → (F_W a).2.1 ≠ (F_W b).2.1 := by decide +kernel
theorem t_W_ok : ∀ k, k < 2 → parseFieldDescriptor (F_W k).2.2.1 = some (t_W k) := by decide +kernel
theorem u_W : ∀ w ∈ u_ws R_W F_W 2, w ∈ zz := by
  intro w hw
  obtain ⟨k, hk, rfl⟩ := List.mem_map.mp hw
  have hk := List.mem_range.mp hk
  match k, hk with
  | 0, _ => exact zz_in 74 (by decide +kernel) (by decide +kernel)
  | 1, _ => exact zz_in 76 (by decide +kernel) (by decide +kernel)
def F_D : u_T := fun k => match k with
  | 0 => ("SpellDesk$Dictionary", "row", "[LSpellDesk$Word;", true)
  | _ => ("SpellDesk$Dictionary", "size", "I", false)
def t_D : Nat → FieldType := fun k => match k with
  | 0 => .array (.object "SpellDesk$Word")
  | _ => .int
theorem n_D : ∀ a, a < 2 → ∀ b, b < 2 → a ≠ b → (F_D a).2.1 ≠ (F_D b).2.1 := by decide +kernel
theorem t_D_ok : ∀ k, k < 2 → parseFieldDescriptor (F_D k).2.2.1 = some (t_D k) := by decide +kernel
theorem u_D : ∀ w ∈ u_ws R_D F_D 2, w ∈ zz := by
  intro w hw
  obtain ⟨k, hk, rfl⟩ := List.mem_map.mp hw
  have hk := List.mem_range.mp hk
  match k, hk with
  | 0, _ => exact zz_in 82 (by decide +kernel) (by decide +kernel)
  | 1, _ => exact zz_in 84 (by decide +kernel) (by decide +kernel)
def F_E : u_T := fun k => match k with
  | _ => ("SpellDesk$EditTable", "cost", "[[I", true)
def t_E : Nat → FieldType := fun k => match k with
  | _ => .array (.array .int)
theorem n_E : ∀ a, a < 1 → ∀ b, b < 1 → a ≠ b → (F_E a).2.1 ≠ (F_E b).2.1 := by decide +kernel
theorem t_E_ok : ∀ k, k < 1 → parseFieldDescriptor (F_E k).2.2.1 = some (t_E k) := by decide +kernel
theorem u_E : ∀ w ∈ u_ws R_E F_E 1, w ∈ zz := by
  intro w hw
  obtain ⟨k, hk, rfl⟩ := List.mem_map.mp hw
  have hk := List.mem_range.mp hk
  match k, hk with
  | 0, _ => exact zz_in 96 (by decide +kernel) (by decide +kernel)
def F_R : u_T := fun k => match k with
  | _ => ("SpellDesk$DropTable", "lists", "[[I", true)
def t_R : Nat → FieldType := fun k => match k with
  | _ => .array (.array .int)
theorem n_R : ∀ a, a < 1 → ∀ b, b < 1 → a ≠ b → (F_R a).2.1 ≠ (F_R b).2.1 := by decide +kernel
theorem t_R_ok : ∀ k, k < 1 → parseFieldDescriptor (F_R k).2.2.1 = some (t_R k) := by decide +kernel
theorem u_R : ∀ w ∈ u_ws R_R F_R 1, w ∈ zz := by
  intro w hw
  obtain ⟨k, hk, rfl⟩ := List.mem_map.mp hw
  have hk := List.mem_range.mp hk
  match k, hk with
  | 0, _ => exact zz_in 107 (by decide +kernel) (by decide +kernel)
def F_S : u_T := fun k => match k with
  | 0 => ("SpellDesk", "input", "LSpellDesk$Letters;", true)
  | 1 => ("SpellDesk", "dictionary", "LSpellDesk$Dictionary;", true)
  | 2 => ("SpellDesk", "edits", "LSpellDesk$EditTable;", true)
  | 3 => ("SpellDesk", "dropTable", "LSpellDesk$DropTable;", true)
  | _ => ("SpellDesk", "distances", "[I", true)
def t_S : Nat → FieldType := fun k => match k with
  | 0 => .object "SpellDesk$Letters"
  | 1 => .object "SpellDesk$Dictionary"
  | 2 => .object "SpellDesk$EditTable"
  | 3 => .object "SpellDesk$DropTable"
  | _ => .array .int
theorem n_S : ∀ a, a < 5 → ∀ b, b < 5 → a ≠ b → (F_S a).2.1 ≠ (F_S b).2.1 := by decide +kernel
theorem t_S_ok : ∀ k, k < 5 → parseFieldDescriptor (F_S k).2.2.1 = some (t_S k) := by decide +kernel
theorem u_S : ∀ w ∈ u_ws R_S F_S 5, w ∈ zz := by
  intro w hw
  obtain ⟨k, hk, rfl⟩ := List.mem_map.mp hw
  have hk := List.mem_range.mp hk
  match k, hk with
  | 0, _ => exact zz_in 115 (by decide +kernel) (by decide +kernel)
  | 1, _ => exact zz_in 117 (by decide +kernel) (by decide +kernel)
  | 2, _ => exact zz_in 119 (by decide +kernel) (by decide +kernel)
  | 3, _ => exact zz_in 121 (by decide +kernel) (by decide +kernel)
  | 4, _ => exact zz_in 123 (by decide +kernel) (by decide +kernel)
def F_M : u_T := fun k => match k with
  | 0 => ("SpellDeskModel", "typed", "[I", true)
  | 1 => ("SpellDeskModel", "length", "I", false)
  | 2 => ("SpellDeskModel", "letters", "[I", true)
  | 3 => ("SpellDeskModel", "sizes", "[I", true)
  | 4 => ("SpellDeskModel", "counts", "[I", true)
  | 5 => ("SpellDeskModel", "words", "I", false)
  | 6 => ("SpellDeskModel", "reached", "[I", true)
  | _ => ("SpellDeskModel", "lists", "[J", true)
def t_M : Nat → FieldType := fun k => match k with
  | 0 => .array .int
  | 1 => .int
  | 2 => .array .int
  | 3 => .array .int
  | 4 => .array .int
  | 5 => .int
  | 6 => .array .int
  | _ => .array .long
theorem n_M : ∀ a, a < 8 → ∀ b, b < 8 → a ≠ b → (F_M a).2.1 ≠ (F_M b).2.1 := by decide +kernel
theorem t_M_ok : ∀ k, k < 8 → parseFieldDescriptor (F_M k).2.2.1 = some (t_M k) := by decide +kernel
theorem u_M : ∀ w ∈ u_ws R_M F_M 8, w ∈ zz := by
  intro w hw
  obtain ⟨k, hk, rfl⟩ := List.mem_map.mp hw
  have hk := List.mem_range.mp hk
  match k, hk with
  | 0, _ => exact zz_in 338 (by decide +kernel) (by decide +kernel)
  | 1, _ => exact zz_in 340 (by decide +kernel) (by decide +kernel)
  | 2, _ => exact zz_in 342 (by decide +kernel) (by decide +kernel)
  | 3, _ => exact zz_in 344 (by decide +kernel) (by decide +kernel)
  | 4, _ => exact zz_in 346 (by decide +kernel) (by decide +kernel)
  | 5, _ => exact zz_in 348 (by decide +kernel) (by decide +kernel)
  | 6, _ => exact zz_in 350 (by decide +kernel) (by decide +kernel)
  | 7, _ => exact zz_in 352 (by decide +kernel) (by decide +kernel)
abbrev classes : List vw_C := [(R_L, F_L, 2), (R_W, F_W, 2), (R_D, F_D, 2), (R_E, F_E, 1), (R_R, F_R, 1), (R_S, F_S, 5), (R_M, F_M, 8)]
abbrev kL : Nat := 0
abbrev kW : Nat := 1
abbrev kD : Nat := 2
abbrev kE : Nat := 3
abbrev kR : Nat := 4
abbrev kS : Nat := 5
abbrev kM : Nat := 6
abbrev b_S_init : ByteArray := prog_1_method_1_code
def y_S_init : MethodName := ⟨R_S, "<init>", "()V"⟩
abbrev b_S_key : ByteArray := prog_1_method_2_code
def y_S_key : MethodName := ⟨R_S, "key", "(I)Z"⟩
abbrev b_S_back : ByteArray := prog_1_method_3_code
def y_S_back : MethodName := ⟨R_S, "back", "()Z"⟩
abbrev b_S_wipe : ByteArray := prog_1_method_4_code
def y_S_wipe : MethodName := ⟨R_S, "wipe", "()V"⟩
abbrev b_S_length : ByteArray := prog_1_method_5_code
def y_S_length : MethodName := ⟨R_S, "length", "()I"⟩
abbrev b_S_typed : ByteArray := prog_1_method_6_code
def y_S_typed : MethodName := ⟨R_S, "typed", "(I)I"⟩
abbrev b_S_learn : ByteArray := prog_1_method_7_code
def y_S_learn : MethodName := ⟨R_S, "learn", "(I)I"⟩
abbrev b_S_forget : ByteArray := prog_1_method_8_code
def y_S_forget : MethodName := ⟨R_S, "forget", "(I)Z"⟩
abbrev b_S_words : ByteArray := prog_1_method_9_code
def y_S_words : MethodName := ⟨R_S, "words", "()I"⟩
abbrev b_S_letter : ByteArray := prog_1_method_10_code
def y_S_letter : MethodName := ⟨R_S, "letter", "(II)I"⟩
abbrev b_S_count : ByteArray := prog_1_method_11_code
def y_S_count : MethodName := ⟨R_S, "count", "(I)I"⟩
abbrev b_S_rank : ByteArray := prog_1_method_12_code
def y_S_rank : MethodName := ⟨R_S, "rank", "()I"⟩
abbrev b_S_distance : ByteArray := prog_1_method_13_code
def y_S_distance : MethodName := ⟨R_S, "distance", "(I)I"⟩
abbrev b_S_near : ByteArray := prog_1_method_14_code
def y_S_near : MethodName := ⟨R_S, "near", "(I)I"⟩
abbrev b_S_suggest : ByteArray := prog_1_method_15_code
def y_S_suggest : MethodName := ⟨R_S, "suggest", "(II)I"⟩
abbrev b_S_complete : ByteArray := prog_1_method_16_code
def y_S_complete : MethodName := ⟨R_S, "complete", "(I)I"⟩
abbrev b_S_edit : ByteArray := prog_1_method_17_code
def y_S_edit : MethodName := ⟨R_S, "edit", "(II)I"⟩
abbrev b_S_drops : ByteArray := prog_1_method_18_code
def y_S_drops : MethodName := ⟨R_S, "drops", "(I)I"⟩
abbrev b_S_measureAll : ByteArray := prog_1_method_19_code
def y_S_measureAll : MethodName := ⟨R_S, "measureAll", "()V"⟩
abbrev b_S_placeAmongSuggestions : ByteArray := prog_1_method_20_code
def y_S_placeAmongSuggestions : MethodName := ⟨R_S, "placeAmongSuggestions", "(I)I"⟩
abbrev b_S_isSuggestedBefore : ByteArray := prog_1_method_21_code
def y_S_isSuggestedBefore : MethodName := ⟨R_S, "isSuggestedBefore", "(II)Z"⟩
abbrev b_S_placeAmongCompletions : ByteArray := prog_1_method_22_code
def y_S_placeAmongCompletions : MethodName := ⟨R_S, "placeAmongCompletions", "(I)I"⟩
abbrev b_S_isCompletion : ByteArray := prog_1_method_23_code
def y_S_isCompletion : MethodName := ⟨R_S, "isCompletion", "(I)Z"⟩
abbrev b_M_init : ByteArray := prog_8_method_1_code
def y_M_init : MethodName := ⟨R_M, "<init>", "()V"⟩
abbrev b_M_key : ByteArray := prog_8_method_2_code
def y_M_key : MethodName := ⟨R_M, "key", "(I)Z"⟩
abbrev b_M_back : ByteArray := prog_8_method_3_code
def y_M_back : MethodName := ⟨R_M, "back", "()Z"⟩
abbrev b_M_wipe : ByteArray := prog_8_method_4_code
def y_M_wipe : MethodName := ⟨R_M, "wipe", "()V"⟩
abbrev b_M_length : ByteArray := prog_8_method_5_code
def y_M_length : MethodName := ⟨R_M, "length", "()I"⟩
abbrev b_M_typed : ByteArray := prog_8_method_6_code
def y_M_typed : MethodName := ⟨R_M, "typed", "(I)I"⟩
abbrev b_M_at : ByteArray := prog_8_method_7_code
def y_M_at : MethodName := ⟨R_M, "at", "(II)I"⟩
abbrev b_M_before : ByteArray := prog_8_method_8_code
def y_M_before : MethodName := ⟨R_M, "before", "(II)Z"⟩
abbrev b_M_rankOf : ByteArray := prog_8_method_9_code
def y_M_rankOf : MethodName := ⟨R_M, "rankOf", "(I)I"⟩
abbrev b_M_place : ByteArray := prog_8_method_10_code
def y_M_place : MethodName := ⟨R_M, "place", "(I)I"⟩
abbrev b_M_beginsTyped : ByteArray := prog_8_method_11_code
def y_M_beginsTyped : MethodName := ⟨R_M, "beginsTyped", "(I)Z"⟩
abbrev b_M_same : ByteArray := prog_8_method_12_code
def y_M_same : MethodName := ⟨R_M, "same", "()I"⟩
abbrev b_M_learn : ByteArray := prog_8_method_13_code
def y_M_learn : MethodName := ⟨R_M, "learn", "(I)I"⟩
abbrev b_M_forget : ByteArray := prog_8_method_14_code
def y_M_forget : MethodName := ⟨R_M, "forget", "(I)Z"⟩
abbrev b_M_words : ByteArray := prog_8_method_15_code
def y_M_words : MethodName := ⟨R_M, "words", "()I"⟩
abbrev b_M_letter : ByteArray := prog_8_method_16_code
def y_M_letter : MethodName := ⟨R_M, "letter", "(II)I"⟩
abbrev b_M_count : ByteArray := prog_8_method_17_code
def y_M_count : MethodName := ⟨R_M, "count", "(I)I"⟩
abbrev b_M_rank : ByteArray := prog_8_method_18_code
def y_M_rank : MethodName := ⟨R_M, "rank", "()I"⟩
abbrev b_M_reach : ByteArray := prog_8_method_19_code
def y_M_reach : MethodName := ⟨R_M, "reach", "(II)V"⟩
abbrev b_M_far : ByteArray := prog_8_method_20_code
def y_M_far : MethodName := ⟨R_M, "far", "(III)I"⟩
abbrev b_M_distance : ByteArray := prog_8_method_21_code
def y_M_distance : MethodName := ⟨R_M, "distance", "(I)I"⟩
abbrev b_M_near : ByteArray := prog_8_method_22_code
def y_M_near : MethodName := ⟨R_M, "near", "(I)I"⟩
abbrev b_M_better : ByteArray := prog_8_method_23_code
def y_M_better : MethodName := ⟨R_M, "better", "(IIII)Z"⟩
abbrev b_M_suggest : ByteArray := prog_8_method_24_code
def y_M_suggest : MethodName := ⟨R_M, "suggest", "(II)I"⟩
abbrev b_M_complete : ByteArray := prog_8_method_25_code
def y_M_complete : MethodName := ⟨R_M, "complete", "(I)I"⟩
abbrev b_M_edit : ByteArray := prog_8_method_26_code
def y_M_edit : MethodName := ⟨R_M, "edit", "(II)I"⟩
abbrev b_M_next : ByteArray := prog_8_method_27_code
def y_M_next : MethodName := ⟨R_M, "next", "(IIII)I"⟩
abbrev b_M_left : ByteArray := prog_8_method_28_code
def y_M_left : MethodName := ⟨R_M, "left", "(I)J"⟩
abbrev b_M_bits : ByteArray := prog_8_method_29_code
def y_M_bits : MethodName := ⟨R_M, "bits", "(I)I"⟩
abbrev b_M_drops : ByteArray := prog_8_method_30_code
def y_M_drops : MethodName := ⟨R_M, "drops", "(I)I"⟩
abbrev b_D_init : ByteArray := prog_2_method_1_code
def y_D_init : MethodName := ⟨R_D, "<init>", "()V"⟩
abbrev b_D_has : ByteArray := prog_2_method_2_code
def y_D_has : MethodName := ⟨R_D, "has", "(I)Z"⟩
abbrev b_D_lettersOf : ByteArray := prog_2_method_3_code
def y_D_lettersOf : MethodName := ⟨R_D, "lettersOf", "(I)LSpellDesk$Letters;"⟩
abbrev b_D_timesOf : ByteArray := prog_2_method_4_code
def y_D_timesOf : MethodName := ⟨R_D, "timesOf", "(I)I"⟩
abbrev b_D_addTimes : ByteArray := prog_2_method_5_code
def y_D_addTimes : MethodName := ⟨R_D, "addTimes", "(II)V"⟩
abbrev b_D_isPreferred : ByteArray := prog_2_method_6_code
def y_D_isPreferred : MethodName := ⟨R_D, "isPreferred", "(II)Z"⟩
abbrev b_D_find : ByteArray := prog_2_method_7_code
def y_D_find : MethodName := ⟨R_D, "find", "(LSpellDesk$Letters;)I"⟩
abbrev b_D_insert : ByteArray := prog_2_method_8_code
def y_D_insert : MethodName := ⟨R_D, "insert", "(LSpellDesk$Letters;I)Z"⟩
abbrev b_D_remove : ByteArray := prog_2_method_9_code
def y_D_remove : MethodName := ⟨R_D, "remove", "(I)Z"⟩
abbrev b_D_placeFor : ByteArray := prog_2_method_10_code
def y_D_placeFor : MethodName := ⟨R_D, "placeFor", "(LSpellDesk$Letters;)I"⟩
abbrev b_R_init : ByteArray := prog_3_method_1_code
def y_R_init : MethodName := ⟨R_R, "<init>", "()V"⟩
abbrev b_R_listsOf : ByteArray := prog_3_method_2_code
def y_R_listsOf : MethodName := ⟨R_R, "listsOf", "(LSpellDesk$Letters;I)I"⟩
abbrev b_R_listsWithin : ByteArray := prog_3_method_3_code
def y_R_listsWithin : MethodName := ⟨R_R, "listsWithin", "(LSpellDesk$Letters;II)I"⟩
abbrev b_R_placeBefore : ByteArray := prog_3_method_4_code
def y_R_placeBefore : MethodName := ⟨R_R, "placeBefore", "(LSpellDesk$Letters;I)I"⟩
abbrev b_E_init : ByteArray := prog_4_method_1_code
def y_E_init : MethodName := ⟨R_E, "<init>", "()V"⟩
abbrev b_E_measure : ByteArray := prog_4_method_2_code
def y_E_measure : MethodName := ⟨R_E, "measure", "(LSpellDesk$Letters;LSpellDesk$Letters;)I"⟩
abbrev b_E_editAt : ByteArray := prog_4_method_3_code
def y_E_editAt : MethodName := ⟨R_E, "editAt", "(LSpellDesk$Letters;LSpellDesk$Letters;I)I"⟩
abbrev b_E_leastCost : ByteArray := prog_4_method_4_code
def y_E_leastCost : MethodName := ⟨R_E, "leastCost", "(LSpellDesk$Letters;ILSpellDesk$Letters;I)I"⟩
abbrev b_E_firstEdit : ByteArray := prog_4_method_5_code
def y_E_firstEdit : MethodName := ⟨R_E, "firstEdit", "(LSpellDesk$Letters;ILSpellDesk$Letters;I)I"⟩
abbrev b_L_init : ByteArray := prog_5_method_1_code
def y_L_init : MethodName := ⟨R_L, "<init>", "(I)V"⟩
abbrev b_L_at : ByteArray := prog_5_method_2_code
def y_L_at : MethodName := ⟨R_L, "at", "(I)I"⟩
abbrev b_L_append : ByteArray := prog_5_method_3_code
def y_L_append : MethodName := ⟨R_L, "append", "(I)Z"⟩
abbrev b_L_removeLast : ByteArray := prog_5_method_4_code
def y_L_removeLast : MethodName := ⟨R_L, "removeLast", "()Z"⟩
abbrev b_L_clear : ByteArray := prog_5_method_5_code
def y_L_clear : MethodName := ⟨R_L, "clear", "()V"⟩
abbrev b_L_copyFrom : ByteArray := prog_5_method_6_code
def y_L_copyFrom : MethodName := ⟨R_L, "copyFrom", "(LSpellDesk$Letters;)V"⟩
abbrev b_L_beginsWith : ByteArray := prog_5_method_7_code
def y_L_beginsWith : MethodName := ⟨R_L, "beginsWith", "(LSpellDesk$Letters;)Z"⟩
abbrev b_L_isSameAs : ByteArray := prog_5_method_8_code
def y_L_isSameAs : MethodName := ⟨R_L, "isSameAs", "(LSpellDesk$Letters;)Z"⟩
abbrev b_L_isBefore : ByteArray := prog_5_method_9_code
def y_L_isBefore : MethodName := ⟨R_L, "isBefore", "(LSpellDesk$Letters;)Z"⟩
abbrev b_W_init : ByteArray := prog_6_method_1_code
def y_W_init : MethodName := ⟨R_W, "<init>", "()V"⟩
abbrev b_A_law : ByteArray := code
def y_A_law : MethodName := ⟨R_A, "law", "([I)Z"⟩
theorem in_A : (Cond.initialized R_A) ∈ zz := zz_in 21 (by decide +kernel) (by decide +kernel)
theorem in_S : (Cond.initialized R_S) ∈ zz := zz_in 22 (by decide +kernel) (by decide +kernel)
theorem in_L : (Cond.initialized R_L) ∈ zz := zz_in 23 (by decide +kernel) (by decide +kernel)
theorem in_D : (Cond.initialized R_D) ∈ zz := zz_in 24 (by decide +kernel) (by decide +kernel)
theorem in_W : (Cond.initialized R_W) ∈ zz := zz_in 25 (by decide +kernel) (by decide +kernel)
theorem in_E : (Cond.initialized R_E) ∈ zz := zz_in 26 (by decide +kernel) (by decide +kernel)
theorem in_R : (Cond.initialized R_R) ∈ zz := zz_in 27 (by decide +kernel) (by decide +kernel)
theorem in_M : (Cond.initialized R_M) ∈ zz := zz_in 28 (by decide +kernel) (by decide +kernel)
theorem in_Math : (Cond.initialized "java/lang/Math") ∈ zz := zz_in 29 (by decide +kernel) (by decide +kernel)
theorem cl_A_7 : (Cond.classLink R_A (7) R_S) ∈ zz := zz_in 30 (by decide +kernel) (by decide +kernel)
theorem ib_S : (Cond.instantiable R_S (5)) ∈ zz := zz_in 31 (by decide +kernel) (by decide +kernel)
theorem ml_A_9 : (Cond.methodLink R_A (9) y_S_init) ∈ zz := zz_in 32 (by decide +kernel) (by decide +kernel)
theorem im_S_init : (Cond.instanceMethod y_S_init) ∈ zz := zz_in 33 (by decide +kernel) (by decide +kernel)
theorem cd_S_init : (Cond.code y_S_init prog_1_method_1_code (1) (Option.none : Option FieldType)) ∈ zz := zz_in 34 (by decide +kernel) (by decide +kernel)
theorem ml_S_3 : (Cond.methodLink R_S (3) ⟨"java/lang/Object", "<init>", "()V"⟩) ∈ zz := zz_in 35 (by decide +kernel) (by decide +kernel)
theorem im_Object_init : (Cond.instanceMethod ⟨"java/lang/Object", "<init>", "()V"⟩) ∈ zz := zz_in 36 (by decide +kernel) (by decide +kernel)
theorem cd_Object_init : (Cond.code ⟨"java/lang/Object", "<init>", "()V"⟩ object_method_1_code (1) (Option.none : Option FieldType)) ∈ zz := zz_in 37 (by decide +kernel) (by decide +kernel)
theorem cl_S_9 : (Cond.classLink R_S (9) R_L) ∈ zz := zz_in 38 (by decide +kernel) (by decide +kernel)
theorem ib_L : (Cond.instantiable R_L (2)) ∈ zz := zz_in 39 (by decide +kernel) (by decide +kernel)
theorem ml_S_11 : (Cond.methodLink R_S (11) y_L_init) ∈ zz := zz_in 40 (by decide +kernel) (by decide +kernel)
theorem im_L_init : (Cond.instanceMethod y_L_init) ∈ zz := zz_in 41 (by decide +kernel) (by decide +kernel)
theorem cd_L_init : (Cond.code y_L_init prog_5_method_1_code (2) (Option.none : Option FieldType)) ∈ zz := zz_in 42 (by decide +kernel) (by decide +kernel)
theorem ml_L_3 : (Cond.methodLink R_L (3) ⟨"java/lang/Object", "<init>", "()V"⟩) ∈ zz := zz_in 43 (by decide +kernel) (by decide +kernel)
theorem fl_L_9 : (Cond.fieldLink R_L (9) R_L "row" "[I") ∈ zz := zz_in 44 (by decide +kernel) (by decide +kernel)
theorem fl_L_15 : (Cond.fieldLink R_L (15) R_L "size" "I") ∈ zz := zz_in 45 (by decide +kernel) (by decide +kernel)
theorem ac_int : (Cond.arrayClass FieldType.int) ∈ zz := zz_in 54 (by decide +kernel) (by decide +kernel)
theorem cl_S_18 : (Cond.classLink R_S (18) R_D) ∈ zz := zz_in 55 (by decide +kernel) (by decide +kernel)
theorem ib_D : (Cond.instantiable R_D (2)) ∈ zz := zz_in 56 (by decide +kernel) (by decide +kernel)
theorem ml_S_20 : (Cond.methodLink R_S (20) y_D_init) ∈ zz := zz_in 57 (by decide +kernel) (by decide +kernel)
theorem im_D_init : (Cond.instanceMethod y_D_init) ∈ zz := zz_in 58 (by decide +kernel) (by decide +kernel)
theorem cd_D_init : (Cond.code y_D_init prog_2_method_1_code (2) (Option.none : Option FieldType)) ∈ zz := zz_in 59 (by decide +kernel) (by decide +kernel)
theorem ml_D_3 : (Cond.methodLink R_D (3) ⟨"java/lang/Object", "<init>", "()V"⟩) ∈ zz := zz_in 60 (by decide +kernel) (by decide +kernel)
theorem cl_D_9 : (Cond.classLink R_D (9) R_W) ∈ zz := zz_in 61 (by decide +kernel) (by decide +kernel)
theorem ib_W : (Cond.instantiable R_W (2)) ∈ zz := zz_in 63 (by decide +kernel) (by decide +kernel)
theorem ml_D_17 : (Cond.methodLink R_D (17) y_W_init) ∈ zz := zz_in 64 (by decide +kernel) (by decide +kernel)
theorem im_W_init : (Cond.instanceMethod y_W_init) ∈ zz := zz_in 65 (by decide +kernel) (by decide +kernel)
theorem cd_W_init : (Cond.code y_W_init prog_6_method_1_code (1) (Option.none : Option FieldType)) ∈ zz := zz_in 66 (by decide +kernel) (by decide +kernel)
theorem ml_W_3 : (Cond.methodLink R_W (3) ⟨"java/lang/Object", "<init>", "()V"⟩) ∈ zz := zz_in 67 (by decide +kernel) (by decide +kernel)
theorem cl_W_9 : (Cond.classLink R_W (9) R_L) ∈ zz := zz_in 68 (by decide +kernel) (by decide +kernel)
theorem ml_W_11 : (Cond.methodLink R_W (11) y_L_init) ∈ zz := zz_in 69 (by decide +kernel) (by decide +kernel)
theorem fl_W_14 : (Cond.fieldLink R_W (14) R_W "letters" "LSpellDesk$Letters;") ∈ zz := zz_in 70 (by decide +kernel) (by decide +kernel)
theorem fl_W_20 : (Cond.fieldLink R_W (20) R_W "times" "I") ∈ zz := zz_in 72 (by decide +kernel) (by decide +kernel)
theorem fl_D_11 : (Cond.fieldLink R_D (11) R_D "row" "[LSpellDesk$Word;") ∈ zz := zz_in 79 (by decide +kernel) (by decide +kernel)
theorem fl_D_18 : (Cond.fieldLink R_D (18) R_D "size" "I") ∈ zz := zz_in 80 (by decide +kernel) (by decide +kernel)
theorem cl_S_25 : (Cond.classLink R_S (25) R_E) ∈ zz := zz_in 87 (by decide +kernel) (by decide +kernel)
theorem ib_E : (Cond.instantiable R_E (1)) ∈ zz := zz_in 88 (by decide +kernel) (by decide +kernel)
theorem ml_S_27 : (Cond.methodLink R_S (27) y_E_init) ∈ zz := zz_in 89 (by decide +kernel) (by decide +kernel)
theorem im_E_init : (Cond.instanceMethod y_E_init) ∈ zz := zz_in 90 (by decide +kernel) (by decide +kernel)
theorem cd_E_init : (Cond.code y_E_init prog_4_method_1_code (1) (Option.none : Option FieldType)) ∈ zz := zz_in 91 (by decide +kernel) (by decide +kernel)
theorem ml_E_3 : (Cond.methodLink R_E (3) ⟨"java/lang/Object", "<init>", "()V"⟩) ∈ zz := zz_in 92 (by decide +kernel) (by decide +kernel)
theorem cl_E_9 : (Cond.classLink R_E (9) "[[I") ∈ zz := zz_in 93 (by decide +kernel) (by decide +kernel)
theorem fl_E_11 : (Cond.fieldLink R_E (11) R_E "cost" "[[I") ∈ zz := zz_in 95 (by decide +kernel) (by decide +kernel)
theorem cl_S_32 : (Cond.classLink R_S (32) R_R) ∈ zz := zz_in 99 (by decide +kernel) (by decide +kernel)
theorem ib_R : (Cond.instantiable R_R (1)) ∈ zz := zz_in 100 (by decide +kernel) (by decide +kernel)
theorem ml_S_34 : (Cond.methodLink R_S (34) y_R_init) ∈ zz := zz_in 101 (by decide +kernel) (by decide +kernel)
theorem im_R_init : (Cond.instanceMethod y_R_init) ∈ zz := zz_in 102 (by decide +kernel) (by decide +kernel)
theorem cd_R_init : (Cond.code y_R_init prog_3_method_1_code (1) (Option.none : Option FieldType)) ∈ zz := zz_in 103 (by decide +kernel) (by decide +kernel)
theorem ml_R_3 : (Cond.methodLink R_R (3) ⟨"java/lang/Object", "<init>", "()V"⟩) ∈ zz := zz_in 104 (by decide +kernel) (by decide +kernel)
theorem cl_R_9 : (Cond.classLink R_R (9) "[[I") ∈ zz := zz_in 105 (by decide +kernel) (by decide +kernel)
theorem fl_R_11 : (Cond.fieldLink R_R (11) R_R "lists" "[[I") ∈ zz := zz_in 106 (by decide +kernel) (by decide +kernel)
theorem fl_S_14 : (Cond.fieldLink R_S (14) R_S "input" "LSpellDesk$Letters;") ∈ zz := zz_in 110 (by decide +kernel) (by decide +kernel)
theorem fl_S_21 : (Cond.fieldLink R_S (21) R_S "dictionary" "LSpellDesk$Dictionary;") ∈ zz := zz_in 111 (by decide +kernel) (by decide +kernel)
theorem fl_S_28 : (Cond.fieldLink R_S (28) R_S "edits" "LSpellDesk$EditTable;") ∈ zz := zz_in 112 (by decide +kernel) (by decide +kernel)
theorem fl_S_35 : (Cond.fieldLink R_S (35) R_S "dropTable" "LSpellDesk$DropTable;") ∈ zz := zz_in 113 (by decide +kernel) (by decide +kernel)
theorem fl_S_39 : (Cond.fieldLink R_S (39) R_S "distances" "[I") ∈ zz := zz_in 114 (by decide +kernel) (by decide +kernel)
theorem ml_A_13 : (Cond.methodLink R_A (13) y_S_key) ∈ zz := zz_in 126 (by decide +kernel) (by decide +kernel)
theorem im_S_key : (Cond.instanceMethod y_S_key) ∈ zz := zz_in 127 (by decide +kernel) (by decide +kernel)
theorem se_S_key : (Cond.selects R_S y_S_key y_S_key) ∈ zz := zz_in 128 (by decide +kernel) (by decide +kernel)
theorem cd_S_key : (Cond.code y_S_key prog_1_method_2_code (2) (Option.some FieldType.boolean)) ∈ zz := zz_in 129 (by decide +kernel) (by decide +kernel)
theorem ml_S_43 : (Cond.methodLink R_S (43) y_L_append) ∈ zz := zz_in 130 (by decide +kernel) (by decide +kernel)
theorem im_L_append : (Cond.instanceMethod y_L_append) ∈ zz := zz_in 131 (by decide +kernel) (by decide +kernel)
theorem se_L_append : (Cond.selects R_L y_L_append y_L_append) ∈ zz := zz_in 132 (by decide +kernel) (by decide +kernel)
theorem cd_L_append : (Cond.code y_L_append prog_5_method_3_code (2) (Option.some FieldType.boolean)) ∈ zz := zz_in 133 (by decide +kernel) (by decide +kernel)
theorem ml_A_18 : (Cond.methodLink R_A (18) y_S_back) ∈ zz := zz_in 134 (by decide +kernel) (by decide +kernel)
theorem im_S_back : (Cond.instanceMethod y_S_back) ∈ zz := zz_in 135 (by decide +kernel) (by decide +kernel)
theorem se_S_back : (Cond.selects R_S y_S_back y_S_back) ∈ zz := zz_in 136 (by decide +kernel) (by decide +kernel)
theorem cd_S_back : (Cond.code y_S_back prog_1_method_3_code (1) (Option.some FieldType.boolean)) ∈ zz := zz_in 137 (by decide +kernel) (by decide +kernel)
theorem ml_S_47 : (Cond.methodLink R_S (47) y_L_removeLast) ∈ zz := zz_in 138 (by decide +kernel) (by decide +kernel)
theorem im_L_removeLast : (Cond.instanceMethod y_L_removeLast) ∈ zz := zz_in 139 (by decide +kernel) (by decide +kernel)
theorem se_L_removeLast : (Cond.selects R_L y_L_removeLast y_L_removeLast) ∈ zz := zz_in 140 (by decide +kernel) (by decide +kernel)
theorem cd_L_removeLast : (Cond.code y_L_removeLast prog_5_method_4_code (1) (Option.some FieldType.boolean)) ∈ zz := zz_in 141 (by decide +kernel) (by decide +kernel)
theorem ml_A_23 : (Cond.methodLink R_A (23) y_S_wipe) ∈ zz := zz_in 142 (by decide +kernel) (by decide +kernel)
theorem im_S_wipe : (Cond.instanceMethod y_S_wipe) ∈ zz := zz_in 143 (by decide +kernel) (by decide +kernel)
theorem se_S_wipe : (Cond.selects R_S y_S_wipe y_S_wipe) ∈ zz := zz_in 144 (by decide +kernel) (by decide +kernel)
theorem cd_S_wipe : (Cond.code y_S_wipe prog_1_method_4_code (1) (Option.none : Option FieldType)) ∈ zz := zz_in 145 (by decide +kernel) (by decide +kernel)
theorem ml_S_51 : (Cond.methodLink R_S (51) y_L_clear) ∈ zz := zz_in 146 (by decide +kernel) (by decide +kernel)
theorem im_L_clear : (Cond.instanceMethod y_L_clear) ∈ zz := zz_in 147 (by decide +kernel) (by decide +kernel)
theorem se_L_clear : (Cond.selects R_L y_L_clear y_L_clear) ∈ zz := zz_in 148 (by decide +kernel) (by decide +kernel)
theorem cd_L_clear : (Cond.code y_L_clear prog_5_method_5_code (1) (Option.none : Option FieldType)) ∈ zz := zz_in 149 (by decide +kernel) (by decide +kernel)
theorem ml_A_27 : (Cond.methodLink R_A (27) y_S_length) ∈ zz := zz_in 150 (by decide +kernel) (by decide +kernel)
theorem im_S_length : (Cond.instanceMethod y_S_length) ∈ zz := zz_in 151 (by decide +kernel) (by decide +kernel)
theorem se_S_length : (Cond.selects R_S y_S_length y_S_length) ∈ zz := zz_in 152 (by decide +kernel) (by decide +kernel)
theorem cd_S_length : (Cond.code y_S_length prog_1_method_5_code (1) (Option.some FieldType.int)) ∈ zz := zz_in 153 (by decide +kernel) (by decide +kernel)
theorem ml_A_32 : (Cond.methodLink R_A (32) y_S_typed) ∈ zz := zz_in 154 (by decide +kernel) (by decide +kernel)
theorem im_S_typed : (Cond.instanceMethod y_S_typed) ∈ zz := zz_in 155 (by decide +kernel) (by decide +kernel)
theorem se_S_typed : (Cond.selects R_S y_S_typed y_S_typed) ∈ zz := zz_in 156 (by decide +kernel) (by decide +kernel)
theorem cd_S_typed : (Cond.code y_S_typed prog_1_method_6_code (2) (Option.some FieldType.int)) ∈ zz := zz_in 157 (by decide +kernel) (by decide +kernel)
theorem ml_S_58 : (Cond.methodLink R_S (58) y_L_at) ∈ zz := zz_in 158 (by decide +kernel) (by decide +kernel)
theorem im_L_at : (Cond.instanceMethod y_L_at) ∈ zz := zz_in 159 (by decide +kernel) (by decide +kernel)
theorem se_L_at : (Cond.selects R_L y_L_at y_L_at) ∈ zz := zz_in 160 (by decide +kernel) (by decide +kernel)
theorem cd_L_at : (Cond.code y_L_at prog_5_method_2_code (2) (Option.some FieldType.int)) ∈ zz := zz_in 161 (by decide +kernel) (by decide +kernel)
theorem ml_A_37 : (Cond.methodLink R_A (37) y_S_learn) ∈ zz := zz_in 162 (by decide +kernel) (by decide +kernel)
theorem im_S_learn : (Cond.instanceMethod y_S_learn) ∈ zz := zz_in 163 (by decide +kernel) (by decide +kernel)
theorem se_S_learn : (Cond.selects R_S y_S_learn y_S_learn) ∈ zz := zz_in 164 (by decide +kernel) (by decide +kernel)
theorem cd_S_learn : (Cond.code y_S_learn prog_1_method_7_code (3) (Option.some FieldType.int)) ∈ zz := zz_in 165 (by decide +kernel) (by decide +kernel)
theorem cn_S_62 : (Cond.constant R_S (62) (1000000)) ∈ zz := zz_in 166 (by decide +kernel) (by decide +kernel)
theorem ml_S_63 : (Cond.methodLink R_S (63) y_D_find) ∈ zz := zz_in 167 (by decide +kernel) (by decide +kernel)
theorem im_D_find : (Cond.instanceMethod y_D_find) ∈ zz := zz_in 168 (by decide +kernel) (by decide +kernel)
theorem se_D_find : (Cond.selects R_D y_D_find y_D_find) ∈ zz := zz_in 169 (by decide +kernel) (by decide +kernel)
theorem cd_D_find : (Cond.code y_D_find prog_2_method_7_code (3) (Option.some FieldType.int)) ∈ zz := zz_in 170 (by decide +kernel) (by decide +kernel)
theorem ml_D_36 : (Cond.methodLink R_D (36) y_L_isSameAs) ∈ zz := zz_in 171 (by decide +kernel) (by decide +kernel)
theorem im_L_isSameAs : (Cond.instanceMethod y_L_isSameAs) ∈ zz := zz_in 172 (by decide +kernel) (by decide +kernel)
theorem se_L_isSameAs : (Cond.selects R_L y_L_isSameAs y_L_isSameAs) ∈ zz := zz_in 173 (by decide +kernel) (by decide +kernel)
theorem cd_L_isSameAs : (Cond.code y_L_isSameAs prog_5_method_8_code (2) (Option.some FieldType.boolean)) ∈ zz := zz_in 174 (by decide +kernel) (by decide +kernel)
theorem ml_L_30 : (Cond.methodLink R_L (30) y_L_beginsWith) ∈ zz := zz_in 175 (by decide +kernel) (by decide +kernel)
theorem im_L_beginsWith : (Cond.instanceMethod y_L_beginsWith) ∈ zz := zz_in 176 (by decide +kernel) (by decide +kernel)
theorem se_L_beginsWith : (Cond.selects R_L y_L_beginsWith y_L_beginsWith) ∈ zz := zz_in 177 (by decide +kernel) (by decide +kernel)
theorem cd_L_beginsWith : (Cond.code y_L_beginsWith prog_5_method_7_code (3) (Option.some FieldType.boolean)) ∈ zz := zz_in 178 (by decide +kernel) (by decide +kernel)
theorem ml_L_22 : (Cond.methodLink R_L (22) y_L_at) ∈ zz := zz_in 179 (by decide +kernel) (by decide +kernel)
theorem ml_S_67 : (Cond.methodLink R_S (67) y_D_addTimes) ∈ zz := zz_in 180 (by decide +kernel) (by decide +kernel)
theorem im_D_addTimes : (Cond.instanceMethod y_D_addTimes) ∈ zz := zz_in 181 (by decide +kernel) (by decide +kernel)
theorem se_D_addTimes : (Cond.selects R_D y_D_addTimes y_D_addTimes) ∈ zz := zz_in 182 (by decide +kernel) (by decide +kernel)
theorem cd_D_addTimes : (Cond.code y_D_addTimes prog_2_method_5_code (3) (Option.none : Option FieldType)) ∈ zz := zz_in 183 (by decide +kernel) (by decide +kernel)
theorem cn_D_29 : (Cond.constant R_D (29) (1000000)) ∈ zz := zz_in 184 (by decide +kernel) (by decide +kernel)
theorem ml_D_30 : (Cond.methodLink R_D (30) ⟨"java/lang/Math", "min", "(II)I"⟩) ∈ zz := zz_in 185 (by decide +kernel) (by decide +kernel)
theorem sm_Math_min : (Cond.static ⟨"java/lang/Math", "min", "(II)I"⟩) ∈ zz := zz_in 186 (by decide +kernel) (by decide +kernel)
theorem cd_Math_min : (Cond.code ⟨"java/lang/Math", "min", "(II)I"⟩ prog_9_method_69_code (2) (Option.some FieldType.int)) ∈ zz := zz_in 187 (by decide +kernel) (by decide +kernel)
theorem ml_S_71 : (Cond.methodLink R_S (71) y_D_insert) ∈ zz := zz_in 188 (by decide +kernel) (by decide +kernel)
theorem im_D_insert : (Cond.instanceMethod y_D_insert) ∈ zz := zz_in 189 (by decide +kernel) (by decide +kernel)
theorem se_D_insert : (Cond.selects R_D y_D_insert y_D_insert) ∈ zz := zz_in 190 (by decide +kernel) (by decide +kernel)
theorem cd_D_insert : (Cond.code y_D_insert prog_2_method_8_code (6) (Option.some FieldType.boolean)) ∈ zz := zz_in 191 (by decide +kernel) (by decide +kernel)
theorem ml_D_42 : (Cond.methodLink R_D (42) y_L_copyFrom) ∈ zz := zz_in 192 (by decide +kernel) (by decide +kernel)
theorem im_L_copyFrom : (Cond.instanceMethod y_L_copyFrom) ∈ zz := zz_in 193 (by decide +kernel) (by decide +kernel)
theorem se_L_copyFrom : (Cond.selects R_L y_L_copyFrom y_L_copyFrom) ∈ zz := zz_in 194 (by decide +kernel) (by decide +kernel)
theorem cd_L_copyFrom : (Cond.code y_L_copyFrom prog_5_method_6_code (3) (Option.none : Option FieldType)) ∈ zz := zz_in 195 (by decide +kernel) (by decide +kernel)
theorem ml_L_19 : (Cond.methodLink R_L (19) y_L_clear) ∈ zz := zz_in 196 (by decide +kernel) (by decide +kernel)
theorem ml_L_26 : (Cond.methodLink R_L (26) y_L_append) ∈ zz := zz_in 197 (by decide +kernel) (by decide +kernel)
theorem ml_D_46 : (Cond.methodLink R_D (46) y_D_placeFor) ∈ zz := zz_in 198 (by decide +kernel) (by decide +kernel)
theorem im_D_placeFor : (Cond.instanceMethod y_D_placeFor) ∈ zz := zz_in 200 (by decide +kernel) (by decide +kernel)
theorem cd_D_placeFor : (Cond.code y_D_placeFor prog_2_method_10_code (4) (Option.some FieldType.int)) ∈ zz := zz_in 201 (by decide +kernel) (by decide +kernel)
theorem ml_D_54 : (Cond.methodLink R_D (54) y_L_isBefore) ∈ zz := zz_in 202 (by decide +kernel) (by decide +kernel)
theorem im_L_isBefore : (Cond.instanceMethod y_L_isBefore) ∈ zz := zz_in 203 (by decide +kernel) (by decide +kernel)
theorem se_L_isBefore : (Cond.selects R_L y_L_isBefore y_L_isBefore) ∈ zz := zz_in 204 (by decide +kernel) (by decide +kernel)
theorem cd_L_isBefore : (Cond.code y_L_isBefore prog_5_method_9_code (3) (Option.some FieldType.boolean)) ∈ zz := zz_in 205 (by decide +kernel) (by decide +kernel)
theorem ml_A_41 : (Cond.methodLink R_A (41) y_S_forget) ∈ zz := zz_in 206 (by decide +kernel) (by decide +kernel)
theorem im_S_forget : (Cond.instanceMethod y_S_forget) ∈ zz := zz_in 207 (by decide +kernel) (by decide +kernel)
theorem se_S_forget : (Cond.selects R_S y_S_forget y_S_forget) ∈ zz := zz_in 208 (by decide +kernel) (by decide +kernel)
theorem cd_S_forget : (Cond.code y_S_forget prog_1_method_8_code (2) (Option.some FieldType.boolean)) ∈ zz := zz_in 209 (by decide +kernel) (by decide +kernel)
theorem ml_S_75 : (Cond.methodLink R_S (75) y_D_remove) ∈ zz := zz_in 210 (by decide +kernel) (by decide +kernel)
theorem im_D_remove : (Cond.instanceMethod y_D_remove) ∈ zz := zz_in 211 (by decide +kernel) (by decide +kernel)
theorem se_D_remove : (Cond.selects R_D y_D_remove y_D_remove) ∈ zz := zz_in 212 (by decide +kernel) (by decide +kernel)
theorem cd_D_remove : (Cond.code y_D_remove prog_2_method_9_code (4) (Option.some FieldType.boolean)) ∈ zz := zz_in 213 (by decide +kernel) (by decide +kernel)
theorem ml_D_50 : (Cond.methodLink R_D (50) y_D_has) ∈ zz := zz_in 214 (by decide +kernel) (by decide +kernel)
theorem im_D_has : (Cond.instanceMethod y_D_has) ∈ zz := zz_in 215 (by decide +kernel) (by decide +kernel)
theorem se_D_has : (Cond.selects R_D y_D_has y_D_has) ∈ zz := zz_in 216 (by decide +kernel) (by decide +kernel)
theorem cd_D_has : (Cond.code y_D_has prog_2_method_2_code (2) (Option.some FieldType.boolean)) ∈ zz := zz_in 217 (by decide +kernel) (by decide +kernel)
theorem ml_A_45 : (Cond.methodLink R_A (45) y_S_words) ∈ zz := zz_in 218 (by decide +kernel) (by decide +kernel)
theorem im_S_words : (Cond.instanceMethod y_S_words) ∈ zz := zz_in 219 (by decide +kernel) (by decide +kernel)
theorem se_S_words : (Cond.selects R_S y_S_words y_S_words) ∈ zz := zz_in 220 (by decide +kernel) (by decide +kernel)
theorem cd_S_words : (Cond.code y_S_words prog_1_method_9_code (1) (Option.some FieldType.int)) ∈ zz := zz_in 221 (by decide +kernel) (by decide +kernel)
theorem ml_A_49 : (Cond.methodLink R_A (49) y_S_letter) ∈ zz := zz_in 222 (by decide +kernel) (by decide +kernel)
theorem im_S_letter : (Cond.instanceMethod y_S_letter) ∈ zz := zz_in 223 (by decide +kernel) (by decide +kernel)
theorem se_S_letter : (Cond.selects R_S y_S_letter y_S_letter) ∈ zz := zz_in 224 (by decide +kernel) (by decide +kernel)
theorem cd_S_letter : (Cond.code y_S_letter prog_1_method_10_code (3) (Option.some FieldType.int)) ∈ zz := zz_in 225 (by decide +kernel) (by decide +kernel)
theorem ml_S_79 : (Cond.methodLink R_S (79) y_D_has) ∈ zz := zz_in 226 (by decide +kernel) (by decide +kernel)
theorem ml_S_82 : (Cond.methodLink R_S (82) y_D_lettersOf) ∈ zz := zz_in 227 (by decide +kernel) (by decide +kernel)
theorem im_D_lettersOf : (Cond.instanceMethod y_D_lettersOf) ∈ zz := zz_in 228 (by decide +kernel) (by decide +kernel)
theorem se_D_lettersOf : (Cond.selects R_D y_D_lettersOf y_D_lettersOf) ∈ zz := zz_in 229 (by decide +kernel) (by decide +kernel)
theorem cd_D_lettersOf : (Cond.code y_D_lettersOf prog_2_method_3_code (2) (Option.some (FieldType.object R_L))) ∈ zz := zz_in 230 (by decide +kernel) (by decide +kernel)
theorem ml_A_54 : (Cond.methodLink R_A (54) y_S_count) ∈ zz := zz_in 231 (by decide +kernel) (by decide +kernel)
theorem im_S_count : (Cond.instanceMethod y_S_count) ∈ zz := zz_in 232 (by decide +kernel) (by decide +kernel)
theorem se_S_count : (Cond.selects R_S y_S_count y_S_count) ∈ zz := zz_in 233 (by decide +kernel) (by decide +kernel)
theorem cd_S_count : (Cond.code y_S_count prog_1_method_11_code (2) (Option.some FieldType.int)) ∈ zz := zz_in 234 (by decide +kernel) (by decide +kernel)
theorem ml_S_86 : (Cond.methodLink R_S (86) y_D_timesOf) ∈ zz := zz_in 235 (by decide +kernel) (by decide +kernel)
theorem im_D_timesOf : (Cond.instanceMethod y_D_timesOf) ∈ zz := zz_in 236 (by decide +kernel) (by decide +kernel)
theorem se_D_timesOf : (Cond.selects R_D y_D_timesOf y_D_timesOf) ∈ zz := zz_in 237 (by decide +kernel) (by decide +kernel)
theorem cd_D_timesOf : (Cond.code y_D_timesOf prog_2_method_4_code (2) (Option.some FieldType.int)) ∈ zz := zz_in 238 (by decide +kernel) (by decide +kernel)
theorem ml_A_58 : (Cond.methodLink R_A (58) y_S_rank) ∈ zz := zz_in 239 (by decide +kernel) (by decide +kernel)
theorem im_S_rank : (Cond.instanceMethod y_S_rank) ∈ zz := zz_in 240 (by decide +kernel) (by decide +kernel)
theorem se_S_rank : (Cond.selects R_S y_S_rank y_S_rank) ∈ zz := zz_in 241 (by decide +kernel) (by decide +kernel)
theorem cd_S_rank : (Cond.code y_S_rank prog_1_method_12_code (1) (Option.some FieldType.int)) ∈ zz := zz_in 242 (by decide +kernel) (by decide +kernel)
theorem ml_A_62 : (Cond.methodLink R_A (62) y_S_distance) ∈ zz := zz_in 243 (by decide +kernel) (by decide +kernel)
theorem im_S_distance : (Cond.instanceMethod y_S_distance) ∈ zz := zz_in 244 (by decide +kernel) (by decide +kernel)
theorem se_S_distance : (Cond.selects R_S y_S_distance y_S_distance) ∈ zz := zz_in 245 (by decide +kernel) (by decide +kernel)
theorem cd_S_distance : (Cond.code y_S_distance prog_1_method_13_code (2) (Option.some FieldType.int)) ∈ zz := zz_in 246 (by decide +kernel) (by decide +kernel)
theorem ml_S_89 : (Cond.methodLink R_S (89) y_E_measure) ∈ zz := zz_in 247 (by decide +kernel) (by decide +kernel)
theorem im_E_measure : (Cond.instanceMethod y_E_measure) ∈ zz := zz_in 248 (by decide +kernel) (by decide +kernel)
theorem se_E_measure : (Cond.selects R_E y_E_measure y_E_measure) ∈ zz := zz_in 249 (by decide +kernel) (by decide +kernel)
theorem cd_E_measure : (Cond.code y_E_measure prog_4_method_2_code (5) (Option.some FieldType.int)) ∈ zz := zz_in 250 (by decide +kernel) (by decide +kernel)
theorem ml_E_22 : (Cond.methodLink R_E (22) y_E_leastCost) ∈ zz := zz_in 251 (by decide +kernel) (by decide +kernel)
theorem im_E_leastCost : (Cond.instanceMethod y_E_leastCost) ∈ zz := zz_in 253 (by decide +kernel) (by decide +kernel)
theorem cd_E_leastCost : (Cond.code y_E_leastCost prog_4_method_4_code (7) (Option.some FieldType.int)) ∈ zz := zz_in 254 (by decide +kernel) (by decide +kernel)
theorem ml_E_33 : (Cond.methodLink R_E (33) y_L_at) ∈ zz := zz_in 255 (by decide +kernel) (by decide +kernel)
theorem ml_E_37 : (Cond.methodLink R_E (37) ⟨"java/lang/Math", "min", "(II)I"⟩) ∈ zz := zz_in 256 (by decide +kernel) (by decide +kernel)
theorem ml_A_66 : (Cond.methodLink R_A (66) y_S_near) ∈ zz := zz_in 257 (by decide +kernel) (by decide +kernel)
theorem im_S_near : (Cond.instanceMethod y_S_near) ∈ zz := zz_in 258 (by decide +kernel) (by decide +kernel)
theorem se_S_near : (Cond.selects R_S y_S_near y_S_near) ∈ zz := zz_in 259 (by decide +kernel) (by decide +kernel)
theorem cd_S_near : (Cond.code y_S_near prog_1_method_14_code (4) (Option.some FieldType.int)) ∈ zz := zz_in 260 (by decide +kernel) (by decide +kernel)
theorem ml_S_93 : (Cond.methodLink R_S (93) y_S_measureAll) ∈ zz := zz_in 261 (by decide +kernel) (by decide +kernel)
theorem im_S_measureAll : (Cond.instanceMethod y_S_measureAll) ∈ zz := zz_in 263 (by decide +kernel) (by decide +kernel)
theorem cd_S_measureAll : (Cond.code y_S_measureAll prog_1_method_19_code (2) (Option.none : Option FieldType)) ∈ zz := zz_in 264 (by decide +kernel) (by decide +kernel)
theorem ml_A_70 : (Cond.methodLink R_A (70) y_S_suggest) ∈ zz := zz_in 265 (by decide +kernel) (by decide +kernel)
theorem im_S_suggest : (Cond.instanceMethod y_S_suggest) ∈ zz := zz_in 266 (by decide +kernel) (by decide +kernel)
theorem se_S_suggest : (Cond.selects R_S y_S_suggest y_S_suggest) ∈ zz := zz_in 267 (by decide +kernel) (by decide +kernel)
theorem cd_S_suggest : (Cond.code y_S_suggest prog_1_method_15_code (4) (Option.some FieldType.int)) ∈ zz := zz_in 268 (by decide +kernel) (by decide +kernel)
theorem ml_S_96 : (Cond.methodLink R_S (96) y_S_placeAmongSuggestions) ∈ zz := zz_in 269 (by decide +kernel) (by decide +kernel)
theorem im_S_placeAmongSuggestions : (Cond.instanceMethod y_S_placeAmongSuggestions) ∈ zz := zz_in 271 (by decide +kernel) (by decide +kernel)
theorem cd_S_placeAmongSuggestions : (Cond.code y_S_placeAmongSuggestions prog_1_method_20_code (4) (Option.some FieldType.int)) ∈ zz := zz_in 272 (by decide +kernel) (by decide +kernel)
theorem ml_S_113 : (Cond.methodLink R_S (113) y_S_isSuggestedBefore) ∈ zz := zz_in 273 (by decide +kernel) (by decide +kernel)
theorem im_S_isSuggestedBefore : (Cond.instanceMethod y_S_isSuggestedBefore) ∈ zz := zz_in 275 (by decide +kernel) (by decide +kernel)
theorem cd_S_isSuggestedBefore : (Cond.code y_S_isSuggestedBefore prog_1_method_21_code (3) (Option.some FieldType.boolean)) ∈ zz := zz_in 276 (by decide +kernel) (by decide +kernel)
theorem ml_S_117 : (Cond.methodLink R_S (117) y_D_isPreferred) ∈ zz := zz_in 277 (by decide +kernel) (by decide +kernel)
theorem im_D_isPreferred : (Cond.instanceMethod y_D_isPreferred) ∈ zz := zz_in 278 (by decide +kernel) (by decide +kernel)
theorem se_D_isPreferred : (Cond.selects R_D y_D_isPreferred y_D_isPreferred) ∈ zz := zz_in 279 (by decide +kernel) (by decide +kernel)
theorem cd_D_isPreferred : (Cond.code y_D_isPreferred prog_2_method_6_code (3) (Option.some FieldType.boolean)) ∈ zz := zz_in 280 (by decide +kernel) (by decide +kernel)
theorem ml_A_74 : (Cond.methodLink R_A (74) y_S_complete) ∈ zz := zz_in 281 (by decide +kernel) (by decide +kernel)
theorem im_S_complete : (Cond.instanceMethod y_S_complete) ∈ zz := zz_in 282 (by decide +kernel) (by decide +kernel)
theorem se_S_complete : (Cond.selects R_S y_S_complete y_S_complete) ∈ zz := zz_in 283 (by decide +kernel) (by decide +kernel)
theorem cd_S_complete : (Cond.code y_S_complete prog_1_method_16_code (3) (Option.some FieldType.int)) ∈ zz := zz_in 284 (by decide +kernel) (by decide +kernel)
theorem ml_S_99 : (Cond.methodLink R_S (99) y_S_isCompletion) ∈ zz := zz_in 285 (by decide +kernel) (by decide +kernel)
theorem im_S_isCompletion : (Cond.instanceMethod y_S_isCompletion) ∈ zz := zz_in 287 (by decide +kernel) (by decide +kernel)
theorem cd_S_isCompletion : (Cond.code y_S_isCompletion prog_1_method_23_code (2) (Option.some FieldType.boolean)) ∈ zz := zz_in 288 (by decide +kernel) (by decide +kernel)
theorem ml_S_120 : (Cond.methodLink R_S (120) y_L_beginsWith) ∈ zz := zz_in 289 (by decide +kernel) (by decide +kernel)
theorem ml_S_102 : (Cond.methodLink R_S (102) y_S_placeAmongCompletions) ∈ zz := zz_in 290 (by decide +kernel) (by decide +kernel)
theorem im_S_placeAmongCompletions : (Cond.instanceMethod y_S_placeAmongCompletions) ∈ zz := zz_in 292 (by decide +kernel) (by decide +kernel)
theorem cd_S_placeAmongCompletions : (Cond.code y_S_placeAmongCompletions prog_1_method_22_code (4) (Option.some FieldType.int)) ∈ zz := zz_in 293 (by decide +kernel) (by decide +kernel)
theorem ml_A_78 : (Cond.methodLink R_A (78) y_S_edit) ∈ zz := zz_in 294 (by decide +kernel) (by decide +kernel)
theorem im_S_edit : (Cond.instanceMethod y_S_edit) ∈ zz := zz_in 295 (by decide +kernel) (by decide +kernel)
theorem se_S_edit : (Cond.selects R_S y_S_edit y_S_edit) ∈ zz := zz_in 296 (by decide +kernel) (by decide +kernel)
theorem cd_S_edit : (Cond.code y_S_edit prog_1_method_17_code (3) (Option.some FieldType.int)) ∈ zz := zz_in 297 (by decide +kernel) (by decide +kernel)
theorem ml_S_105 : (Cond.methodLink R_S (105) y_E_editAt) ∈ zz := zz_in 298 (by decide +kernel) (by decide +kernel)
theorem im_E_editAt : (Cond.instanceMethod y_E_editAt) ∈ zz := zz_in 299 (by decide +kernel) (by decide +kernel)
theorem se_E_editAt : (Cond.selects R_E y_E_editAt y_E_editAt) ∈ zz := zz_in 300 (by decide +kernel) (by decide +kernel)
theorem cd_E_editAt : (Cond.code y_E_editAt prog_4_method_3_code (8) (Option.some FieldType.int)) ∈ zz := zz_in 301 (by decide +kernel) (by decide +kernel)
theorem ml_E_26 : (Cond.methodLink R_E (26) y_E_measure) ∈ zz := zz_in 302 (by decide +kernel) (by decide +kernel)
theorem ml_E_30 : (Cond.methodLink R_E (30) y_E_firstEdit) ∈ zz := zz_in 303 (by decide +kernel) (by decide +kernel)
theorem im_E_firstEdit : (Cond.instanceMethod y_E_firstEdit) ∈ zz := zz_in 305 (by decide +kernel) (by decide +kernel)
theorem cd_E_firstEdit : (Cond.code y_E_firstEdit prog_4_method_5_code (6) (Option.some FieldType.int)) ∈ zz := zz_in 306 (by decide +kernel) (by decide +kernel)
theorem ml_A_82 : (Cond.methodLink R_A (82) y_S_drops) ∈ zz := zz_in 307 (by decide +kernel) (by decide +kernel)
theorem im_S_drops : (Cond.instanceMethod y_S_drops) ∈ zz := zz_in 308 (by decide +kernel) (by decide +kernel)
theorem se_S_drops : (Cond.selects R_S y_S_drops y_S_drops) ∈ zz := zz_in 309 (by decide +kernel) (by decide +kernel)
theorem cd_S_drops : (Cond.code y_S_drops prog_1_method_18_code (2) (Option.some FieldType.int)) ∈ zz := zz_in 310 (by decide +kernel) (by decide +kernel)
theorem ml_S_109 : (Cond.methodLink R_S (109) y_R_listsOf) ∈ zz := zz_in 311 (by decide +kernel) (by decide +kernel)
theorem im_R_listsOf : (Cond.instanceMethod y_R_listsOf) ∈ zz := zz_in 312 (by decide +kernel) (by decide +kernel)
theorem se_R_listsOf : (Cond.selects R_R y_R_listsOf y_R_listsOf) ∈ zz := zz_in 313 (by decide +kernel) (by decide +kernel)
theorem cd_R_listsOf : (Cond.code y_R_listsOf prog_3_method_2_code (5) (Option.some FieldType.int)) ∈ zz := zz_in 314 (by decide +kernel) (by decide +kernel)
theorem ml_R_22 : (Cond.methodLink R_R (22) y_R_listsWithin) ∈ zz := zz_in 315 (by decide +kernel) (by decide +kernel)
theorem im_R_listsWithin : (Cond.instanceMethod y_R_listsWithin) ∈ zz := zz_in 317 (by decide +kernel) (by decide +kernel)
theorem cd_R_listsWithin : (Cond.code y_R_listsWithin prog_3_method_3_code (7) (Option.some FieldType.int)) ∈ zz := zz_in 318 (by decide +kernel) (by decide +kernel)
theorem ml_R_26 : (Cond.methodLink R_R (26) y_R_placeBefore) ∈ zz := zz_in 319 (by decide +kernel) (by decide +kernel)
theorem im_R_placeBefore : (Cond.instanceMethod y_R_placeBefore) ∈ zz := zz_in 321 (by decide +kernel) (by decide +kernel)
theorem cd_R_placeBefore : (Cond.code y_R_placeBefore prog_3_method_4_code (4) (Option.some FieldType.int)) ∈ zz := zz_in 322 (by decide +kernel) (by decide +kernel)
theorem ml_R_30 : (Cond.methodLink R_R (30) y_L_at) ∈ zz := zz_in 323 (by decide +kernel) (by decide +kernel)
theorem cl_A_10 : (Cond.classLink R_A (10) R_M) ∈ zz := zz_in 324 (by decide +kernel) (by decide +kernel)
theorem ib_M : (Cond.instantiable R_M (8)) ∈ zz := zz_in 325 (by decide +kernel) (by decide +kernel)
theorem ml_A_12 : (Cond.methodLink R_A (12) y_M_init) ∈ zz := zz_in 326 (by decide +kernel) (by decide +kernel)
theorem im_M_init : (Cond.instanceMethod y_M_init) ∈ zz := zz_in 327 (by decide +kernel) (by decide +kernel)
theorem cd_M_init : (Cond.code y_M_init prog_8_method_1_code (1) (Option.none : Option FieldType)) ∈ zz := zz_in 328 (by decide +kernel) (by decide +kernel)
theorem ml_M_1 : (Cond.methodLink R_M (1) ⟨"java/lang/Object", "<init>", "()V"⟩) ∈ zz := zz_in 329 (by decide +kernel) (by decide +kernel)
theorem fl_M_7 : (Cond.fieldLink R_M (7) R_M "typed" "[I") ∈ zz := zz_in 330 (by decide +kernel) (by decide +kernel)
theorem fl_M_29 : (Cond.fieldLink R_M (29) R_M "length" "I") ∈ zz := zz_in 331 (by decide +kernel) (by decide +kernel)
theorem fl_M_13 : (Cond.fieldLink R_M (13) R_M "letters" "[I") ∈ zz := zz_in 332 (by decide +kernel) (by decide +kernel)
theorem fl_M_16 : (Cond.fieldLink R_M (16) R_M "sizes" "[I") ∈ zz := zz_in 333 (by decide +kernel) (by decide +kernel)
theorem fl_M_19 : (Cond.fieldLink R_M (19) R_M "counts" "[I") ∈ zz := zz_in 334 (by decide +kernel) (by decide +kernel)
theorem fl_M_37 : (Cond.fieldLink R_M (37) R_M "words" "I") ∈ zz := zz_in 335 (by decide +kernel) (by decide +kernel)
theorem fl_M_22 : (Cond.fieldLink R_M (22) R_M "reached" "[I") ∈ zz := zz_in 336 (by decide +kernel) (by decide +kernel)
theorem fl_M_25 : (Cond.fieldLink R_M (25) R_M "lists" "[J") ∈ zz := zz_in 337 (by decide +kernel) (by decide +kernel)
theorem ac_long : (Cond.arrayClass FieldType.long) ∈ zz := zz_in 355 (by decide +kernel) (by decide +kernel)
theorem ml_A_17 : (Cond.methodLink R_A (17) y_M_key) ∈ zz := zz_in 356 (by decide +kernel) (by decide +kernel)
theorem im_M_key : (Cond.instanceMethod y_M_key) ∈ zz := zz_in 357 (by decide +kernel) (by decide +kernel)
theorem se_M_key : (Cond.selects R_M y_M_key y_M_key) ∈ zz := zz_in 358 (by decide +kernel) (by decide +kernel)
theorem cd_M_key : (Cond.code y_M_key prog_8_method_2_code (2) (Option.some FieldType.boolean)) ∈ zz := zz_in 359 (by decide +kernel) (by decide +kernel)
theorem ml_A_22 : (Cond.methodLink R_A (22) y_M_back) ∈ zz := zz_in 360 (by decide +kernel) (by decide +kernel)
theorem im_M_back : (Cond.instanceMethod y_M_back) ∈ zz := zz_in 361 (by decide +kernel) (by decide +kernel)
theorem se_M_back : (Cond.selects R_M y_M_back y_M_back) ∈ zz := zz_in 362 (by decide +kernel) (by decide +kernel)
theorem cd_M_back : (Cond.code y_M_back prog_8_method_3_code (1) (Option.some FieldType.boolean)) ∈ zz := zz_in 363 (by decide +kernel) (by decide +kernel)
theorem ml_A_26 : (Cond.methodLink R_A (26) y_M_wipe) ∈ zz := zz_in 364 (by decide +kernel) (by decide +kernel)
theorem im_M_wipe : (Cond.instanceMethod y_M_wipe) ∈ zz := zz_in 365 (by decide +kernel) (by decide +kernel)
theorem se_M_wipe : (Cond.selects R_M y_M_wipe y_M_wipe) ∈ zz := zz_in 366 (by decide +kernel) (by decide +kernel)
theorem cd_M_wipe : (Cond.code y_M_wipe prog_8_method_4_code (1) (Option.none : Option FieldType)) ∈ zz := zz_in 367 (by decide +kernel) (by decide +kernel)
theorem ml_A_31 : (Cond.methodLink R_A (31) y_M_length) ∈ zz := zz_in 368 (by decide +kernel) (by decide +kernel)
theorem im_M_length : (Cond.instanceMethod y_M_length) ∈ zz := zz_in 369 (by decide +kernel) (by decide +kernel)
theorem se_M_length : (Cond.selects R_M y_M_length y_M_length) ∈ zz := zz_in 370 (by decide +kernel) (by decide +kernel)
theorem cd_M_length : (Cond.code y_M_length prog_8_method_5_code (1) (Option.some FieldType.int)) ∈ zz := zz_in 371 (by decide +kernel) (by decide +kernel)
theorem ml_A_36 : (Cond.methodLink R_A (36) y_M_typed) ∈ zz := zz_in 372 (by decide +kernel) (by decide +kernel)
theorem im_M_typed : (Cond.instanceMethod y_M_typed) ∈ zz := zz_in 373 (by decide +kernel) (by decide +kernel)
theorem se_M_typed : (Cond.selects R_M y_M_typed y_M_typed) ∈ zz := zz_in 374 (by decide +kernel) (by decide +kernel)
theorem cd_M_typed : (Cond.code y_M_typed prog_8_method_6_code (2) (Option.some FieldType.int)) ∈ zz := zz_in 375 (by decide +kernel) (by decide +kernel)
theorem ml_A_40 : (Cond.methodLink R_A (40) y_M_learn) ∈ zz := zz_in 376 (by decide +kernel) (by decide +kernel)
theorem im_M_learn : (Cond.instanceMethod y_M_learn) ∈ zz := zz_in 377 (by decide +kernel) (by decide +kernel)
theorem se_M_learn : (Cond.selects R_M y_M_learn y_M_learn) ∈ zz := zz_in 378 (by decide +kernel) (by decide +kernel)
theorem cd_M_learn : (Cond.code y_M_learn prog_8_method_13_code (4) (Option.some FieldType.int)) ∈ zz := zz_in 379 (by decide +kernel) (by decide +kernel)
theorem cn_M_52 : (Cond.constant R_M (52) (1000000)) ∈ zz := zz_in 380 (by decide +kernel) (by decide +kernel)
theorem ml_M_53 : (Cond.methodLink R_M (53) y_M_same) ∈ zz := zz_in 381 (by decide +kernel) (by decide +kernel)
theorem im_M_same : (Cond.instanceMethod y_M_same) ∈ zz := zz_in 383 (by decide +kernel) (by decide +kernel)
theorem cd_M_same : (Cond.code y_M_same prog_8_method_12_code (2) (Option.some FieldType.int)) ∈ zz := zz_in 384 (by decide +kernel) (by decide +kernel)
theorem ml_M_48 : (Cond.methodLink R_M (48) y_M_beginsTyped) ∈ zz := zz_in 385 (by decide +kernel) (by decide +kernel)
theorem im_M_beginsTyped : (Cond.instanceMethod y_M_beginsTyped) ∈ zz := zz_in 387 (by decide +kernel) (by decide +kernel)
theorem cd_M_beginsTyped : (Cond.code y_M_beginsTyped prog_8_method_11_code (3) (Option.some FieldType.boolean)) ∈ zz := zz_in 388 (by decide +kernel) (by decide +kernel)
theorem ml_A_44 : (Cond.methodLink R_A (44) y_M_forget) ∈ zz := zz_in 389 (by decide +kernel) (by decide +kernel)
theorem im_M_forget : (Cond.instanceMethod y_M_forget) ∈ zz := zz_in 390 (by decide +kernel) (by decide +kernel)
theorem se_M_forget : (Cond.selects R_M y_M_forget y_M_forget) ∈ zz := zz_in 391 (by decide +kernel) (by decide +kernel)
theorem cd_M_forget : (Cond.code y_M_forget prog_8_method_14_code (4) (Option.some FieldType.boolean)) ∈ zz := zz_in 392 (by decide +kernel) (by decide +kernel)
theorem ml_M_57 : (Cond.methodLink R_M (57) y_M_place) ∈ zz := zz_in 393 (by decide +kernel) (by decide +kernel)
theorem im_M_place : (Cond.instanceMethod y_M_place) ∈ zz := zz_in 395 (by decide +kernel) (by decide +kernel)
theorem cd_M_place : (Cond.code y_M_place prog_8_method_10_code (3) (Option.some FieldType.int)) ∈ zz := zz_in 396 (by decide +kernel) (by decide +kernel)
theorem ml_M_44 : (Cond.methodLink R_M (44) y_M_rankOf) ∈ zz := zz_in 397 (by decide +kernel) (by decide +kernel)
theorem im_M_rankOf : (Cond.instanceMethod y_M_rankOf) ∈ zz := zz_in 399 (by decide +kernel) (by decide +kernel)
theorem cd_M_rankOf : (Cond.code y_M_rankOf prog_8_method_9_code (4) (Option.some FieldType.int)) ∈ zz := zz_in 400 (by decide +kernel) (by decide +kernel)
theorem ml_M_40 : (Cond.methodLink R_M (40) y_M_before) ∈ zz := zz_in 401 (by decide +kernel) (by decide +kernel)
theorem im_M_before : (Cond.instanceMethod y_M_before) ∈ zz := zz_in 403 (by decide +kernel) (by decide +kernel)
theorem cd_M_before : (Cond.code y_M_before prog_8_method_8_code (4) (Option.some FieldType.boolean)) ∈ zz := zz_in 404 (by decide +kernel) (by decide +kernel)
theorem ml_M_33 : (Cond.methodLink R_M (33) y_M_at) ∈ zz := zz_in 405 (by decide +kernel) (by decide +kernel)
theorem im_M_at : (Cond.instanceMethod y_M_at) ∈ zz := zz_in 407 (by decide +kernel) (by decide +kernel)
theorem cd_M_at : (Cond.code y_M_at prog_8_method_7_code (3) (Option.some FieldType.int)) ∈ zz := zz_in 408 (by decide +kernel) (by decide +kernel)
theorem ml_A_48 : (Cond.methodLink R_A (48) y_M_words) ∈ zz := zz_in 409 (by decide +kernel) (by decide +kernel)
theorem im_M_words : (Cond.instanceMethod y_M_words) ∈ zz := zz_in 410 (by decide +kernel) (by decide +kernel)
theorem se_M_words : (Cond.selects R_M y_M_words y_M_words) ∈ zz := zz_in 411 (by decide +kernel) (by decide +kernel)
theorem cd_M_words : (Cond.code y_M_words prog_8_method_15_code (1) (Option.some FieldType.int)) ∈ zz := zz_in 412 (by decide +kernel) (by decide +kernel)
theorem ml_A_53 : (Cond.methodLink R_A (53) y_M_letter) ∈ zz := zz_in 413 (by decide +kernel) (by decide +kernel)
theorem im_M_letter : (Cond.instanceMethod y_M_letter) ∈ zz := zz_in 414 (by decide +kernel) (by decide +kernel)
theorem se_M_letter : (Cond.selects R_M y_M_letter y_M_letter) ∈ zz := zz_in 415 (by decide +kernel) (by decide +kernel)
theorem cd_M_letter : (Cond.code y_M_letter prog_8_method_16_code (4) (Option.some FieldType.int)) ∈ zz := zz_in 416 (by decide +kernel) (by decide +kernel)
theorem ml_A_57 : (Cond.methodLink R_A (57) y_M_count) ∈ zz := zz_in 417 (by decide +kernel) (by decide +kernel)
theorem im_M_count : (Cond.instanceMethod y_M_count) ∈ zz := zz_in 418 (by decide +kernel) (by decide +kernel)
theorem se_M_count : (Cond.selects R_M y_M_count y_M_count) ∈ zz := zz_in 419 (by decide +kernel) (by decide +kernel)
theorem cd_M_count : (Cond.code y_M_count prog_8_method_17_code (3) (Option.some FieldType.int)) ∈ zz := zz_in 420 (by decide +kernel) (by decide +kernel)
theorem ml_A_61 : (Cond.methodLink R_A (61) y_M_rank) ∈ zz := zz_in 421 (by decide +kernel) (by decide +kernel)
theorem im_M_rank : (Cond.instanceMethod y_M_rank) ∈ zz := zz_in 422 (by decide +kernel) (by decide +kernel)
theorem se_M_rank : (Cond.selects R_M y_M_rank y_M_rank) ∈ zz := zz_in 423 (by decide +kernel) (by decide +kernel)
theorem cd_M_rank : (Cond.code y_M_rank prog_8_method_18_code (2) (Option.some FieldType.int)) ∈ zz := zz_in 424 (by decide +kernel) (by decide +kernel)
theorem ml_A_65 : (Cond.methodLink R_A (65) y_M_distance) ∈ zz := zz_in 425 (by decide +kernel) (by decide +kernel)
theorem im_M_distance : (Cond.instanceMethod y_M_distance) ∈ zz := zz_in 426 (by decide +kernel) (by decide +kernel)
theorem se_M_distance : (Cond.selects R_M y_M_distance y_M_distance) ∈ zz := zz_in 427 (by decide +kernel) (by decide +kernel)
theorem cd_M_distance : (Cond.code y_M_distance prog_8_method_21_code (3) (Option.some FieldType.int)) ∈ zz := zz_in 428 (by decide +kernel) (by decide +kernel)
theorem ml_M_64 : (Cond.methodLink R_M (64) y_M_far) ∈ zz := zz_in 429 (by decide +kernel) (by decide +kernel)
theorem im_M_far : (Cond.instanceMethod y_M_far) ∈ zz := zz_in 431 (by decide +kernel) (by decide +kernel)
theorem cd_M_far : (Cond.code y_M_far prog_8_method_20_code (8) (Option.some FieldType.int)) ∈ zz := zz_in 432 (by decide +kernel) (by decide +kernel)
theorem ml_M_60 : (Cond.methodLink R_M (60) y_M_reach) ∈ zz := zz_in 433 (by decide +kernel) (by decide +kernel)
theorem im_M_reach : (Cond.instanceMethod y_M_reach) ∈ zz := zz_in 435 (by decide +kernel) (by decide +kernel)
theorem cd_M_reach : (Cond.code y_M_reach prog_8_method_19_code (3) (Option.none : Option FieldType)) ∈ zz := zz_in 436 (by decide +kernel) (by decide +kernel)
theorem ml_A_69 : (Cond.methodLink R_A (69) y_M_near) ∈ zz := zz_in 437 (by decide +kernel) (by decide +kernel)
theorem im_M_near : (Cond.instanceMethod y_M_near) ∈ zz := zz_in 438 (by decide +kernel) (by decide +kernel)
theorem se_M_near : (Cond.selects R_M y_M_near y_M_near) ∈ zz := zz_in 439 (by decide +kernel) (by decide +kernel)
theorem cd_M_near : (Cond.code y_M_near prog_8_method_22_code (4) (Option.some FieldType.int)) ∈ zz := zz_in 440 (by decide +kernel) (by decide +kernel)
theorem ml_A_73 : (Cond.methodLink R_A (73) y_M_suggest) ∈ zz := zz_in 441 (by decide +kernel) (by decide +kernel)
theorem im_M_suggest : (Cond.instanceMethod y_M_suggest) ∈ zz := zz_in 442 (by decide +kernel) (by decide +kernel)
theorem se_M_suggest : (Cond.selects R_M y_M_suggest y_M_suggest) ∈ zz := zz_in 443 (by decide +kernel) (by decide +kernel)
theorem cd_M_suggest : (Cond.code y_M_suggest prog_8_method_24_code (8) (Option.some FieldType.int)) ∈ zz := zz_in 444 (by decide +kernel) (by decide +kernel)
theorem ml_M_68 : (Cond.methodLink R_M (68) y_M_better) ∈ zz := zz_in 445 (by decide +kernel) (by decide +kernel)
theorem im_M_better : (Cond.instanceMethod y_M_better) ∈ zz := zz_in 447 (by decide +kernel) (by decide +kernel)
theorem cd_M_better : (Cond.code y_M_better prog_8_method_23_code (5) (Option.some FieldType.boolean)) ∈ zz := zz_in 448 (by decide +kernel) (by decide +kernel)
theorem ml_A_77 : (Cond.methodLink R_A (77) y_M_complete) ∈ zz := zz_in 449 (by decide +kernel) (by decide +kernel)
theorem im_M_complete : (Cond.instanceMethod y_M_complete) ∈ zz := zz_in 450 (by decide +kernel) (by decide +kernel)
theorem se_M_complete : (Cond.selects R_M y_M_complete y_M_complete) ∈ zz := zz_in 451 (by decide +kernel) (by decide +kernel)
theorem cd_M_complete : (Cond.code y_M_complete prog_8_method_25_code (5) (Option.some FieldType.int)) ∈ zz := zz_in 452 (by decide +kernel) (by decide +kernel)
theorem ml_A_81 : (Cond.methodLink R_A (81) y_M_edit) ∈ zz := zz_in 453 (by decide +kernel) (by decide +kernel)
theorem im_M_edit : (Cond.instanceMethod y_M_edit) ∈ zz := zz_in 454 (by decide +kernel) (by decide +kernel)
theorem se_M_edit : (Cond.selects R_M y_M_edit y_M_edit) ∈ zz := zz_in 455 (by decide +kernel) (by decide +kernel)
theorem cd_M_edit : (Cond.code y_M_edit prog_8_method_26_code (9) (Option.some FieldType.int)) ∈ zz := zz_in 456 (by decide +kernel) (by decide +kernel)
theorem ml_M_72 : (Cond.methodLink R_M (72) y_M_next) ∈ zz := zz_in 457 (by decide +kernel) (by decide +kernel)
theorem im_M_next : (Cond.instanceMethod y_M_next) ∈ zz := zz_in 459 (by decide +kernel) (by decide +kernel)
theorem cd_M_next : (Cond.code y_M_next prog_8_method_27_code (9) (Option.some FieldType.int)) ∈ zz := zz_in 460 (by decide +kernel) (by decide +kernel)
theorem ml_A_85 : (Cond.methodLink R_A (85) y_M_drops) ∈ zz := zz_in 461 (by decide +kernel) (by decide +kernel)
theorem im_M_drops : (Cond.instanceMethod y_M_drops) ∈ zz := zz_in 462 (by decide +kernel) (by decide +kernel)
theorem se_M_drops : (Cond.selects R_M y_M_drops y_M_drops) ∈ zz := zz_in 463 (by decide +kernel) (by decide +kernel)
theorem cd_M_drops : (Cond.code y_M_drops prog_8_method_30_code (8) (Option.some FieldType.int)) ∈ zz := zz_in 464 (by decide +kernel) (by decide +kernel)
theorem ml_M_78 : (Cond.methodLink R_M (78) y_M_bits) ∈ zz := zz_in 465 (by decide +kernel) (by decide +kernel)
theorem sm_M_bits : (Cond.static y_M_bits) ∈ zz := zz_in 466 (by decide +kernel) (by decide +kernel)
theorem cd_M_bits : (Cond.code y_M_bits prog_8_method_29_code (3) (Option.some FieldType.int)) ∈ zz := zz_in 467 (by decide +kernel) (by decide +kernel)
theorem ml_M_81 : (Cond.methodLink R_M (81) y_M_left) ∈ zz := zz_in 468 (by decide +kernel) (by decide +kernel)
theorem im_M_left : (Cond.instanceMethod y_M_left) ∈ zz := zz_in 470 (by decide +kernel) (by decide +kernel)
theorem cd_M_left : (Cond.code y_M_left prog_8_method_28_code (5) (Option.some FieldType.long)) ∈ zz := zz_in 471 (by decide +kernel) (by decide +kernel)
theorem cn_M_76 : (Cond.constantLong R_M (76) (32)) ∈ zz := zz_in 472 (by decide +kernel) (by decide +kernel)
theorem se_D_placeFor : Cond.selects R_D y_D_placeFor y_D_placeFor ∈ zz := zz_in 0 (by decide +kernel) (by decide +kernel)
theorem se_E_leastCost : Cond.selects R_E y_E_leastCost y_E_leastCost ∈ zz := zz_in 1 (by decide +kernel) (by decide +kernel)
theorem se_S_measureAll : Cond.selects R_S y_S_measureAll y_S_measureAll ∈ zz := zz_in 2 (by decide +kernel) (by decide +kernel)
theorem se_S_placeAmongSuggestions : Cond.selects R_S y_S_placeAmongSuggestions y_S_placeAmongSuggestions ∈ zz := zz_in 3 (by decide +kernel) (by decide +kernel)
theorem se_S_isSuggestedBefore : Cond.selects R_S y_S_isSuggestedBefore y_S_isSuggestedBefore ∈ zz := zz_in 4 (by decide +kernel) (by decide +kernel)
theorem se_S_isCompletion : Cond.selects R_S y_S_isCompletion y_S_isCompletion ∈ zz := zz_in 5 (by decide +kernel) (by decide +kernel)
theorem se_S_placeAmongCompletions : Cond.selects R_S y_S_placeAmongCompletions y_S_placeAmongCompletions ∈ zz := zz_in 6 (by decide +kernel) (by decide +kernel)
theorem se_E_firstEdit : Cond.selects R_E y_E_firstEdit y_E_firstEdit ∈ zz := zz_in 7 (by decide +kernel) (by decide +kernel)
theorem se_R_listsWithin : Cond.selects R_R y_R_listsWithin y_R_listsWithin ∈ zz := zz_in 8 (by decide +kernel) (by decide +kernel)
theorem se_R_placeBefore : Cond.selects R_R y_R_placeBefore y_R_placeBefore ∈ zz := zz_in 9 (by decide +kernel) (by decide +kernel)
theorem se_M_same : Cond.selects R_M y_M_same y_M_same ∈ zz := zz_in 10 (by decide +kernel) (by decide +kernel)
theorem se_M_beginsTyped : Cond.selects R_M y_M_beginsTyped y_M_beginsTyped ∈ zz := zz_in 11 (by decide +kernel) (by decide +kernel)
theorem se_M_place : Cond.selects R_M y_M_place y_M_place ∈ zz := zz_in 12 (by decide +kernel) (by decide +kernel)
theorem se_M_rankOf : Cond.selects R_M y_M_rankOf y_M_rankOf ∈ zz := zz_in 13 (by decide +kernel) (by decide +kernel)
theorem se_M_before : Cond.selects R_M y_M_before y_M_before ∈ zz := zz_in 14 (by decide +kernel) (by decide +kernel)
theorem se_M_at : Cond.selects R_M y_M_at y_M_at ∈ zz := zz_in 15 (by decide +kernel) (by decide +kernel)
theorem se_M_far : Cond.selects R_M y_M_far y_M_far ∈ zz := zz_in 16 (by decide +kernel) (by decide +kernel)
theorem se_M_reach : Cond.selects R_M y_M_reach y_M_reach ∈ zz := zz_in 17 (by decide +kernel) (by decide +kernel)
theorem se_M_better : Cond.selects R_M y_M_better y_M_better ∈ zz := zz_in 18 (by decide +kernel) (by decide +kernel)
theorem se_M_next : Cond.selects R_M y_M_next y_M_next ∈ zz := zz_in 19 (by decide +kernel) (by decide +kernel)
theorem se_M_left : Cond.selects R_M y_M_left y_M_left ∈ zz := zz_in 20 (by decide +kernel) (by decide +kernel)
def zn : List Cond := [(Cond.fieldLinkNest R_E (16) R_L "size" "I" R_S), (Cond.fieldLinkNest R_R (16) R_L "size" "I" R_S), (Cond.fieldLinkNest R_S (54) R_L "size" "I" R_S), (Cond.fieldLinkNest R_D (22) R_W "letters" "LSpellDesk$Letters;" R_S), (Cond.fieldLinkNest R_D (26) R_W "times" "I" R_S), (Cond.fieldLinkNest R_S (78) R_D "size" "I" R_S)]
theorem zn_in : ∀ w ∈ zn, w ∈ lw_tbl := by
  intro w hw
  unfold zn at hw
  simp only [List.mem_cons, List.not_mem_nil, or_false] at hw
  rcases hw with rfl | rfl | rfl | rfl | rfl | rfl
  · exact List.mem_of_getElem? (i := 46) (by decide +kernel)
  · exact List.mem_of_getElem? (i := 47) (by decide +kernel)
  · exact List.mem_of_getElem? (i := 48) (by decide +kernel)
  · exact List.mem_of_getElem? (i := 71) (by decide +kernel)
  · exact List.mem_of_getElem? (i := 73) (by decide +kernel)
  · exact List.mem_of_getElem? (i := 81) (by decide +kernel)
theorem fn_E_16 : (Cond.fieldLinkNest R_E (16) R_L "size" "I" R_S) ∈ zn := List.mem_of_getElem? (i := 0) rfl
theorem fn_R_16 : (Cond.fieldLinkNest R_R (16) R_L "size" "I" R_S) ∈ zn := List.mem_of_getElem? (i := 1) rfl
theorem fn_S_54 : (Cond.fieldLinkNest R_S (54) R_L "size" "I" R_S) ∈ zn := List.mem_of_getElem? (i := 2) rfl
theorem fn_D_22 : (Cond.fieldLinkNest R_D (22) R_W "letters" "LSpellDesk$Letters;" R_S) ∈ zn := List.mem_of_getElem? (i := 3) rfl
theorem fn_D_26 : (Cond.fieldLinkNest R_D (26) R_W "times" "I" R_S) ∈ zn := List.mem_of_getElem? (i := 4) rfl
theorem fn_S_78 : (Cond.fieldLinkNest R_S (78) R_D "size" "I" R_S) ∈ zn := List.mem_of_getElem? (i := 5) rfl
end
section
theorem d_S_init_0 : decode b_S_init 0 = .ok (.aload_n 0, 1) := by decide +kernel
theorem d_S_init_1 : decode b_S_init 1 = .ok (.invokespecial 3, 3) := by decide +kernel
theorem d_S_init_4 : decode b_S_init 4 = .ok (.aload_n 0, 1) := by decide +kernel
theorem d_S_init_5 : decode b_S_init 5 = .ok (.new 9, 3) := by decide +kernel
theorem d_S_init_8 : decode b_S_init 8 = .ok (.dup, 1) := by decide +kernel
theorem d_S_init_9 : decode b_S_init 9 = .ok (.bipush 10, 2) := by decide +kernel
theorem d_S_init_11 : decode b_S_init 11 = .ok (.invokespecial 11, 3) := by decide +kernel
theorem d_S_init_14 : decode b_S_init 14 = .ok (.putfield 14, 3) := by decide +kernel
theorem d_S_init_17 : decode b_S_init 17 = .ok (.aload_n 0, 1) := by decide +kernel
theorem d_S_init_18 : decode b_S_init 18 = .ok (.new 18, 3) := by decide +kernel
theorem d_S_init_21 : decode b_S_init 21 = .ok (.dup, 1) := by decide +kernel
theorem d_S_init_22 : decode b_S_init 22 = .ok (.invokespecial 20, 3) := by decide +kernel
theorem d_S_init_25 : decode b_S_init 25 = .ok (.putfield 21, 3) := by decide +kernel
theorem d_S_init_28 : decode b_S_init 28 = .ok (.aload_n 0, 1) := by decide +kernel
theorem d_S_init_29 : decode b_S_init 29 = .ok (.new 25, 3) := by decide +kernel
theorem d_S_init_32 : decode b_S_init 32 = .ok (.dup, 1) := by decide +kernel
theorem d_S_init_33 : decode b_S_init 33 = .ok (.invokespecial 27, 3) := by decide +kernel
theorem d_S_init_36 : decode b_S_init 36 = .ok (.putfield 28, 3) := by decide +kernel
theorem d_S_init_39 : decode b_S_init 39 = .ok (.aload_n 0, 1) := by decide +kernel
theorem d_S_init_40 : decode b_S_init 40 = .ok (.new 32, 3) := by decide +kernel
theorem d_S_init_43 : decode b_S_init 43 = .ok (.dup, 1) := by decide +kernel
theorem d_S_init_44 : decode b_S_init 44 = .ok (.invokespecial 34, 3) := by decide +kernel
theorem d_S_init_47 : decode b_S_init 47 = .ok (.putfield 35, 3) := by decide +kernel
theorem d_S_init_50 : decode b_S_init 50 = .ok (.aload_n 0, 1) := by decide +kernel
theorem d_S_init_51 : decode b_S_init 51 = .ok (.bipush 24, 2) := by decide +kernel
theorem d_S_init_53 : decode b_S_init 53 = .ok (.newarray .int, 2) := by decide +kernel
theorem d_S_init_55 : decode b_S_init 55 = .ok (.putfield 39, 3) := by decide +kernel
theorem d_S_init_58 : decode b_S_init 58 = .ok (.return_, 1) := by decide +kernel
theorem d_S_key_0 : decode b_S_key 0 = .ok (.aload_n 0, 1) := by decide +kernel
theorem d_S_key_1 : decode b_S_key 1 = .ok (.getfield 14, 3) := by decide +kernel
theorem d_S_key_4 : decode b_S_key 4 = .ok (.iload_n 1, 1) := by decide +kernel
theorem d_S_key_5 : decode b_S_key 5 = .ok (.invokevirtual 43, 3) := by decide +kernel
theorem d_S_key_8 : decode b_S_key 8 = .ok (.ireturn, 1) := by decide +kernel
theorem d_S_back_0 : decode b_S_back 0 = .ok (.aload_n 0, 1) := by decide +kernel
theorem d_S_back_1 : decode b_S_back 1 = .ok (.getfield 14, 3) := by decide +kernel
theorem d_S_back_4 : decode b_S_back 4 = .ok (.invokevirtual 47, 3) := by decide +kernel
theorem d_S_back_7 : decode b_S_back 7 = .ok (.ireturn, 1) := by decide +kernel
theorem d_S_wipe_0 : decode b_S_wipe 0 = .ok (.aload_n 0, 1) := by decide +kernel
theorem d_S_wipe_1 : decode b_S_wipe 1 = .ok (.getfield 14, 3) := by decide +kernel
theorem d_S_wipe_4 : decode b_S_wipe 4 = .ok (.invokevirtual 51, 3) := by decide +kernel
theorem d_S_wipe_7 : decode b_S_wipe 7 = .ok (.return_, 1) := by decide +kernel
theorem d_S_length_0 : decode b_S_length 0 = .ok (.aload_n 0, 1) := by decide +kernel
theorem d_S_length_1 : decode b_S_length 1 = .ok (.getfield 14, 3) := by decide +kernel
theorem d_S_length_4 : decode b_S_length 4 = .ok (.getfield 54, 3) := by decide +kernel
theorem d_S_length_7 : decode b_S_length 7 = .ok (.ireturn, 1) := by decide +kernel
theorem d_S_typed_0 : decode b_S_typed 0 = .ok (.aload_n 0, 1) := by decide +kernel
theorem d_S_typed_1 : decode b_S_typed 1 = .ok (.getfield 14, 3) := by decide +kernel
theorem d_S_typed_4 : decode b_S_typed 4 = .ok (.iload_n 1, 1) := by decide +kernel
theorem d_S_typed_5 : decode b_S_typed 5 = .ok (.invokevirtual 58, 3) := by decide +kernel
theorem d_S_typed_8 : decode b_S_typed 8 = .ok (.ireturn, 1) := by decide +kernel
theorem d_S_learn_0 : decode b_S_learn 0 = .ok (.iload_n 1, 1) := by decide +kernel
theorem d_S_learn_1 : decode b_S_learn 1 = .ok (.iconst 1, 1) := by decide +kernel
theorem d_S_learn_2 : decode b_S_learn 2 = .ok (.if_icmp .lt 9, 3) := by decide +kernel
theorem d_S_learn_5 : decode b_S_learn 5 = .ok (.iload_n 1, 1) := by decide +kernel
theorem d_S_learn_6 : decode b_S_learn 6 = .ok (.ldc 62, 2) := by decide +kernel
theorem d_S_learn_8 : decode b_S_learn 8 = .ok (.if_icmp .le 5, 3) := by decide +kernel
theorem d_S_learn_11 : decode b_S_learn 11 = .ok (.iconst (-1), 1) := by decide +kernel
theorem d_S_learn_12 : decode b_S_learn 12 = .ok (.ireturn, 1) := by decide +kernel
theorem d_S_learn_13 : decode b_S_learn 13 = .ok (.aload_n 0, 1) := by decide +kernel
theorem d_S_learn_14 : decode b_S_learn 14 = .ok (.getfield 14, 3) := by decide +kernel
theorem d_S_learn_17 : decode b_S_learn 17 = .ok (.getfield 54, 3) := by decide +kernel
theorem d_S_learn_20 : decode b_S_learn 20 = .ok (.iconst 1, 1) := by decide +kernel
theorem d_S_learn_21 : decode b_S_learn 21 = .ok (.if_icmp .lt 15, 3) := by decide +kernel
theorem d_S_learn_24 : decode b_S_learn 24 = .ok (.aload_n 0, 1) := by decide +kernel
theorem d_S_learn_25 : decode b_S_learn 25 = .ok (.getfield 14, 3) := by decide +kernel
theorem d_S_learn_28 : decode b_S_learn 28 = .ok (.getfield 54, 3) := by decide +kernel
theorem d_S_learn_31 : decode b_S_learn 31 = .ok (.bipush 8, 2) := by decide +kernel
theorem d_S_learn_33 : decode b_S_learn 33 = .ok (.if_icmp .le 6, 3) := by decide +kernel
theorem d_S_learn_36 : decode b_S_learn 36 = .ok (.bipush (-2), 2) := by decide +kernel
theorem d_S_learn_38 : decode b_S_learn 38 = .ok (.ireturn, 1) := by decide +kernel
theorem d_S_learn_39 : decode b_S_learn 39 = .ok (.aload_n 0, 1) := by decide +kernel
theorem d_S_learn_40 : decode b_S_learn 40 = .ok (.getfield 21, 3) := by decide +kernel
theorem d_S_learn_43 : decode b_S_learn 43 = .ok (.aload_n 0, 1) := by decide +kernel
theorem d_S_learn_44 : decode b_S_learn 44 = .ok (.getfield 14, 3) := by decide +kernel
theorem d_S_learn_47 : decode b_S_learn 47 = .ok (.invokevirtual 63, 3) := by decide +kernel
theorem d_S_learn_50 : decode b_S_learn 50 = .ok (.istore_n 2, 1) := by decide +kernel
theorem d_S_learn_51 : decode b_S_learn 51 = .ok (.iload_n 2, 1) := by decide +kernel
theorem d_S_learn_52 : decode b_S_learn 52 = .ok (.iconst (-1), 1) := by decide +kernel
theorem d_S_learn_53 : decode b_S_learn 53 = .ok (.if_icmp .eq 14, 3) := by decide +kernel
theorem d_S_learn_56 : decode b_S_learn 56 = .ok (.aload_n 0, 1) := by decide +kernel
theorem d_S_learn_57 : decode b_S_learn 57 = .ok (.getfield 21, 3) := by decide +kernel
theorem d_S_learn_60 : decode b_S_learn 60 = .ok (.iload_n 2, 1) := by decide +kernel
theorem d_S_learn_61 : decode b_S_learn 61 = .ok (.iload_n 1, 1) := by decide +kernel
theorem d_S_learn_62 : decode b_S_learn 62 = .ok (.invokevirtual 67, 3) := by decide +kernel
theorem d_S_learn_65 : decode b_S_learn 65 = .ok (.iconst 1, 1) := by decide +kernel
theorem d_S_learn_66 : decode b_S_learn 66 = .ok (.ireturn, 1) := by decide +kernel
theorem d_S_learn_67 : decode b_S_learn 67 = .ok (.aload_n 0, 1) := by decide +kernel
theorem d_S_learn_68 : decode b_S_learn 68 = .ok (.getfield 21, 3) := by decide +kernel
theorem d_S_learn_71 : decode b_S_learn 71 = .ok (.aload_n 0, 1) := by decide +kernel
theorem d_S_learn_72 : decode b_S_learn 72 = .ok (.getfield 14, 3) := by decide +kernel
theorem d_S_learn_75 : decode b_S_learn 75 = .ok (.iload_n 1, 1) := by decide +kernel
theorem d_S_learn_76 : decode b_S_learn 76 = .ok (.invokevirtual 71, 3) := by decide +kernel
theorem d_S_learn_79 : decode b_S_learn 79 = .ok (.ifCond .eq 7, 3) := by decide +kernel
theorem d_S_learn_82 : decode b_S_learn 82 = .ok (.iconst 0, 1) := by decide +kernel
theorem d_S_learn_83 : decode b_S_learn 83 = .ok (.goto 5, 3) := by decide +kernel
theorem d_S_learn_86 : decode b_S_learn 86 = .ok (.bipush (-3), 2) := by decide +kernel
theorem d_S_learn_88 : decode b_S_learn 88 = .ok (.ireturn, 1) := by decide +kernel
theorem d_S_forget_0 : decode b_S_forget 0 = .ok (.aload_n 0, 1) := by decide +kernel
theorem d_S_forget_1 : decode b_S_forget 1 = .ok (.getfield 21, 3) := by decide +kernel
theorem d_S_forget_4 : decode b_S_forget 4 = .ok (.iload_n 1, 1) := by decide +kernel
theorem d_S_forget_5 : decode b_S_forget 5 = .ok (.invokevirtual 75, 3) := by decide +kernel
theorem d_S_forget_8 : decode b_S_forget 8 = .ok (.ireturn, 1) := by decide +kernel
theorem d_S_words_0 : decode b_S_words 0 = .ok (.aload_n 0, 1) := by decide +kernel
theorem d_S_words_1 : decode b_S_words 1 = .ok (.getfield 21, 3) := by decide +kernel
theorem d_S_words_4 : decode b_S_words 4 = .ok (.getfield 78, 3) := by decide +kernel
theorem d_S_words_7 : decode b_S_words 7 = .ok (.ireturn, 1) := by decide +kernel
theorem d_S_letter_0 : decode b_S_letter 0 = .ok (.aload_n 0, 1) := by decide +kernel
theorem d_S_letter_1 : decode b_S_letter 1 = .ok (.getfield 21, 3) := by decide +kernel
theorem d_S_letter_4 : decode b_S_letter 4 = .ok (.iload_n 1, 1) := by decide +kernel
theorem d_S_letter_5 : decode b_S_letter 5 = .ok (.invokevirtual 79, 3) := by decide +kernel
theorem d_S_letter_8 : decode b_S_letter 8 = .ok (.ifCond .eq 18, 3) := by decide +kernel
theorem d_S_letter_11 : decode b_S_letter 11 = .ok (.aload_n 0, 1) := by decide +kernel
theorem d_S_letter_12 : decode b_S_letter 12 = .ok (.getfield 21, 3) := by decide +kernel
theorem d_S_letter_15 : decode b_S_letter 15 = .ok (.iload_n 1, 1) := by decide +kernel
theorem d_S_letter_16 : decode b_S_letter 16 = .ok (.invokevirtual 82, 3) := by decide +kernel
theorem d_S_letter_19 : decode b_S_letter 19 = .ok (.iload_n 2, 1) := by decide +kernel
theorem d_S_letter_20 : decode b_S_letter 20 = .ok (.invokevirtual 58, 3) := by decide +kernel
theorem d_S_letter_23 : decode b_S_letter 23 = .ok (.goto 4, 3) := by decide +kernel
theorem d_S_letter_26 : decode b_S_letter 26 = .ok (.iconst (-1), 1) := by decide +kernel
theorem d_S_letter_27 : decode b_S_letter 27 = .ok (.ireturn, 1) := by decide +kernel
theorem d_S_count_0 : decode b_S_count 0 = .ok (.aload_n 0, 1) := by decide +kernel
theorem d_S_count_1 : decode b_S_count 1 = .ok (.getfield 21, 3) := by decide +kernel
theorem d_S_count_4 : decode b_S_count 4 = .ok (.iload_n 1, 1) := by decide +kernel
theorem d_S_count_5 : decode b_S_count 5 = .ok (.invokevirtual 79, 3) := by decide +kernel
theorem d_S_count_8 : decode b_S_count 8 = .ok (.ifCond .eq 14, 3) := by decide +kernel
theorem d_S_count_11 : decode b_S_count 11 = .ok (.aload_n 0, 1) := by decide +kernel
theorem d_S_count_12 : decode b_S_count 12 = .ok (.getfield 21, 3) := by decide +kernel
theorem d_S_count_15 : decode b_S_count 15 = .ok (.iload_n 1, 1) := by decide +kernel
theorem d_S_count_16 : decode b_S_count 16 = .ok (.invokevirtual 86, 3) := by decide +kernel
theorem d_S_count_19 : decode b_S_count 19 = .ok (.goto 4, 3) := by decide +kernel
theorem d_S_count_22 : decode b_S_count 22 = .ok (.iconst 0, 1) := by decide +kernel
theorem d_S_count_23 : decode b_S_count 23 = .ok (.ireturn, 1) := by decide +kernel
theorem d_S_rank_0 : decode b_S_rank 0 = .ok (.aload_n 0, 1) := by decide +kernel
theorem d_S_rank_1 : decode b_S_rank 1 = .ok (.getfield 21, 3) := by decide +kernel
theorem d_S_rank_4 : decode b_S_rank 4 = .ok (.aload_n 0, 1) := by decide +kernel
theorem d_S_rank_5 : decode b_S_rank 5 = .ok (.getfield 14, 3) := by decide +kernel
theorem d_S_rank_8 : decode b_S_rank 8 = .ok (.invokevirtual 63, 3) := by decide +kernel
theorem d_S_rank_11 : decode b_S_rank 11 = .ok (.ireturn, 1) := by decide +kernel
theorem d_S_distance_0 : decode b_S_distance 0 = .ok (.aload_n 0, 1) := by decide +kernel
theorem d_S_distance_1 : decode b_S_distance 1 = .ok (.getfield 21, 3) := by decide +kernel
theorem d_S_distance_4 : decode b_S_distance 4 = .ok (.iload_n 1, 1) := by decide +kernel
theorem d_S_distance_5 : decode b_S_distance 5 = .ok (.invokevirtual 79, 3) := by decide +kernel
theorem d_S_distance_8 : decode b_S_distance 8 = .ok (.ifCond .eq 25, 3) := by decide +kernel
theorem d_S_distance_11 : decode b_S_distance 11 = .ok (.aload_n 0, 1) := by decide +kernel
theorem d_S_distance_12 : decode b_S_distance 12 = .ok (.getfield 28, 3) := by decide +kernel
theorem d_S_distance_15 : decode b_S_distance 15 = .ok (.aload_n 0, 1) := by decide +kernel
theorem d_S_distance_16 : decode b_S_distance 16 = .ok (.getfield 14, 3) := by decide +kernel
theorem d_S_distance_19 : decode b_S_distance 19 = .ok (.aload_n 0, 1) := by decide +kernel
theorem d_S_distance_20 : decode b_S_distance 20 = .ok (.getfield 21, 3) := by decide +kernel
theorem d_S_distance_23 : decode b_S_distance 23 = .ok (.iload_n 1, 1) := by decide +kernel
theorem d_S_distance_24 : decode b_S_distance 24 = .ok (.invokevirtual 82, 3) := by decide +kernel
theorem d_S_distance_27 : decode b_S_distance 27 = .ok (.invokevirtual 89, 3) := by decide +kernel
theorem d_S_distance_30 : decode b_S_distance 30 = .ok (.goto 4, 3) := by decide +kernel
theorem d_S_distance_33 : decode b_S_distance 33 = .ok (.iconst (-1), 1) := by decide +kernel
theorem d_S_distance_34 : decode b_S_distance 34 = .ok (.ireturn, 1) := by decide +kernel
theorem d_S_near_0 : decode b_S_near 0 = .ok (.aload_n 0, 1) := by decide +kernel
theorem d_S_near_1 : decode b_S_near 1 = .ok (.invokevirtual 93, 3) := by decide +kernel
theorem d_S_near_4 : decode b_S_near 4 = .ok (.iconst 0, 1) := by decide +kernel
theorem d_S_near_5 : decode b_S_near 5 = .ok (.istore_n 2, 1) := by decide +kernel
theorem d_S_near_6 : decode b_S_near 6 = .ok (.iconst 0, 1) := by decide +kernel
theorem d_S_near_7 : decode b_S_near 7 = .ok (.istore_n 3, 1) := by decide +kernel
theorem d_S_near_8 : decode b_S_near 8 = .ok (.iload_n 3, 1) := by decide +kernel
theorem d_S_near_9 : decode b_S_near 9 = .ok (.aload_n 0, 1) := by decide +kernel
theorem d_S_near_10 : decode b_S_near 10 = .ok (.getfield 21, 3) := by decide +kernel
theorem d_S_near_13 : decode b_S_near 13 = .ok (.getfield 78, 3) := by decide +kernel
theorem d_S_near_16 : decode b_S_near 16 = .ok (.if_icmp .ge 22, 3) := by decide +kernel
theorem d_S_near_19 : decode b_S_near 19 = .ok (.aload_n 0, 1) := by decide +kernel
theorem d_S_near_20 : decode b_S_near 20 = .ok (.getfield 39, 3) := by decide +kernel
theorem d_S_near_23 : decode b_S_near 23 = .ok (.iload_n 3, 1) := by decide +kernel
theorem d_S_near_24 : decode b_S_near 24 = .ok (.iaload, 1) := by decide +kernel
theorem d_S_near_25 : decode b_S_near 25 = .ok (.iload_n 1, 1) := by decide +kernel
theorem d_S_near_26 : decode b_S_near 26 = .ok (.if_icmp .gt 6, 3) := by decide +kernel
theorem d_S_near_29 : decode b_S_near 29 = .ok (.iinc 2 1, 3) := by decide +kernel
theorem d_S_near_32 : decode b_S_near 32 = .ok (.iinc 3 1, 3) := by decide +kernel
theorem d_S_near_35 : decode b_S_near 35 = .ok (.goto (-27), 3) := by decide +kernel
theorem d_S_near_38 : decode b_S_near 38 = .ok (.iload_n 2, 1) := by decide +kernel
theorem d_S_near_39 : decode b_S_near 39 = .ok (.ireturn, 1) := by decide +kernel
theorem d_S_suggest_0 : decode b_S_suggest 0 = .ok (.aload_n 0, 1) := by decide +kernel
theorem d_S_suggest_1 : decode b_S_suggest 1 = .ok (.invokevirtual 93, 3) := by decide +kernel
theorem d_S_suggest_4 : decode b_S_suggest 4 = .ok (.iconst 0, 1) := by decide +kernel
theorem d_S_suggest_5 : decode b_S_suggest 5 = .ok (.istore_n 3, 1) := by decide +kernel
theorem d_S_suggest_6 : decode b_S_suggest 6 = .ok (.iload_n 3, 1) := by decide +kernel
theorem d_S_suggest_7 : decode b_S_suggest 7 = .ok (.aload_n 0, 1) := by decide +kernel
theorem d_S_suggest_8 : decode b_S_suggest 8 = .ok (.getfield 21, 3) := by decide +kernel
theorem d_S_suggest_11 : decode b_S_suggest 11 = .ok (.getfield 78, 3) := by decide +kernel
theorem d_S_suggest_14 : decode b_S_suggest 14 = .ok (.if_icmp .ge 30, 3) := by decide +kernel
theorem d_S_suggest_17 : decode b_S_suggest 17 = .ok (.aload_n 0, 1) := by decide +kernel
theorem d_S_suggest_18 : decode b_S_suggest 18 = .ok (.getfield 39, 3) := by decide +kernel
theorem d_S_suggest_21 : decode b_S_suggest 21 = .ok (.iload_n 3, 1) := by decide +kernel
theorem d_S_suggest_22 : decode b_S_suggest 22 = .ok (.iaload, 1) := by decide +kernel
theorem d_S_suggest_23 : decode b_S_suggest 23 = .ok (.iload_n 2, 1) := by decide +kernel
theorem d_S_suggest_24 : decode b_S_suggest 24 = .ok (.if_icmp .gt 14, 3) := by decide +kernel
theorem d_S_suggest_27 : decode b_S_suggest 27 = .ok (.aload_n 0, 1) := by decide +kernel
theorem d_S_suggest_28 : decode b_S_suggest 28 = .ok (.iload_n 3, 1) := by decide +kernel
theorem d_S_suggest_29 : decode b_S_suggest 29 = .ok (.invokevirtual 96, 3) := by decide +kernel
theorem d_S_suggest_32 : decode b_S_suggest 32 = .ok (.iload_n 1, 1) := by decide +kernel
theorem d_S_suggest_33 : decode b_S_suggest 33 = .ok (.if_icmp .ne 5, 3) := by decide +kernel
theorem d_S_suggest_36 : decode b_S_suggest 36 = .ok (.iload_n 3, 1) := by decide +kernel
theorem d_S_suggest_37 : decode b_S_suggest 37 = .ok (.ireturn, 1) := by decide +kernel
theorem d_S_suggest_38 : decode b_S_suggest 38 = .ok (.iinc 3 1, 3) := by decide +kernel
theorem d_S_suggest_41 : decode b_S_suggest 41 = .ok (.goto (-35), 3) := by decide +kernel
theorem d_S_suggest_44 : decode b_S_suggest 44 = .ok (.iconst (-1), 1) := by decide +kernel
theorem d_S_suggest_45 : decode b_S_suggest 45 = .ok (.ireturn, 1) := by decide +kernel
theorem d_S_complete_0 : decode b_S_complete 0 = .ok (.iconst 0, 1) := by decide +kernel
theorem d_S_complete_1 : decode b_S_complete 1 = .ok (.istore_n 2, 1) := by decide +kernel
theorem d_S_complete_2 : decode b_S_complete 2 = .ok (.iload_n 2, 1) := by decide +kernel
theorem d_S_complete_3 : decode b_S_complete 3 = .ok (.aload_n 0, 1) := by decide +kernel
theorem d_S_complete_4 : decode b_S_complete 4 = .ok (.getfield 21, 3) := by decide +kernel
theorem d_S_complete_7 : decode b_S_complete 7 = .ok (.getfield 78, 3) := by decide +kernel
theorem d_S_complete_10 : decode b_S_complete 10 = .ok (.if_icmp .ge 28, 3) := by decide +kernel
theorem d_S_complete_13 : decode b_S_complete 13 = .ok (.aload_n 0, 1) := by decide +kernel
theorem d_S_complete_14 : decode b_S_complete 14 = .ok (.iload_n 2, 1) := by decide +kernel
theorem d_S_complete_15 : decode b_S_complete 15 = .ok (.invokevirtual 99, 3) := by decide +kernel
theorem d_S_complete_18 : decode b_S_complete 18 = .ok (.ifCond .eq 14, 3) := by decide +kernel
theorem d_S_complete_21 : decode b_S_complete 21 = .ok (.aload_n 0, 1) := by decide +kernel
theorem d_S_complete_22 : decode b_S_complete 22 = .ok (.iload_n 2, 1) := by decide +kernel
theorem d_S_complete_23 : decode b_S_complete 23 = .ok (.invokevirtual 102, 3) := by decide +kernel
theorem d_S_complete_26 : decode b_S_complete 26 = .ok (.iload_n 1, 1) := by decide +kernel
theorem d_S_complete_27 : decode b_S_complete 27 = .ok (.if_icmp .ne 5, 3) := by decide +kernel
theorem d_S_complete_30 : decode b_S_complete 30 = .ok (.iload_n 2, 1) := by decide +kernel
theorem d_S_complete_31 : decode b_S_complete 31 = .ok (.ireturn, 1) := by decide +kernel
theorem d_S_complete_32 : decode b_S_complete 32 = .ok (.iinc 2 1, 3) := by decide +kernel
theorem d_S_complete_35 : decode b_S_complete 35 = .ok (.goto (-33), 3) := by decide +kernel
theorem d_S_complete_38 : decode b_S_complete 38 = .ok (.iconst (-1), 1) := by decide +kernel
theorem d_S_complete_39 : decode b_S_complete 39 = .ok (.ireturn, 1) := by decide +kernel
theorem d_S_edit_0 : decode b_S_edit 0 = .ok (.aload_n 0, 1) := by decide +kernel
theorem d_S_edit_1 : decode b_S_edit 1 = .ok (.getfield 21, 3) := by decide +kernel
theorem d_S_edit_4 : decode b_S_edit 4 = .ok (.iload_n 1, 1) := by decide +kernel
theorem d_S_edit_5 : decode b_S_edit 5 = .ok (.invokevirtual 79, 3) := by decide +kernel
theorem d_S_edit_8 : decode b_S_edit 8 = .ok (.ifCond .eq 26, 3) := by decide +kernel
theorem d_S_edit_11 : decode b_S_edit 11 = .ok (.aload_n 0, 1) := by decide +kernel
theorem d_S_edit_12 : decode b_S_edit 12 = .ok (.getfield 28, 3) := by decide +kernel
theorem d_S_edit_15 : decode b_S_edit 15 = .ok (.aload_n 0, 1) := by decide +kernel
theorem d_S_edit_16 : decode b_S_edit 16 = .ok (.getfield 14, 3) := by decide +kernel
theorem d_S_edit_19 : decode b_S_edit 19 = .ok (.aload_n 0, 1) := by decide +kernel
theorem d_S_edit_20 : decode b_S_edit 20 = .ok (.getfield 21, 3) := by decide +kernel
theorem d_S_edit_23 : decode b_S_edit 23 = .ok (.iload_n 1, 1) := by decide +kernel
theorem d_S_edit_24 : decode b_S_edit 24 = .ok (.invokevirtual 82, 3) := by decide +kernel
theorem d_S_edit_27 : decode b_S_edit 27 = .ok (.iload_n 2, 1) := by decide +kernel
theorem d_S_edit_28 : decode b_S_edit 28 = .ok (.invokevirtual 105, 3) := by decide +kernel
theorem d_S_edit_31 : decode b_S_edit 31 = .ok (.goto 4, 3) := by decide +kernel
theorem d_S_edit_34 : decode b_S_edit 34 = .ok (.iconst (-1), 1) := by decide +kernel
theorem d_S_edit_35 : decode b_S_edit 35 = .ok (.ireturn, 1) := by decide +kernel
theorem d_S_drops_0 : decode b_S_drops 0 = .ok (.iload_n 1, 1) := by decide +kernel
theorem d_S_drops_1 : decode b_S_drops 1 = .ok (.ifCond .lt 14, 3) := by decide +kernel
theorem d_S_drops_4 : decode b_S_drops 4 = .ok (.iload_n 1, 1) := by decide +kernel
theorem d_S_drops_5 : decode b_S_drops 5 = .ok (.aload_n 0, 1) := by decide +kernel
theorem d_S_drops_6 : decode b_S_drops 6 = .ok (.getfield 14, 3) := by decide +kernel
theorem d_S_drops_9 : decode b_S_drops 9 = .ok (.getfield 54, 3) := by decide +kernel
theorem d_S_drops_12 : decode b_S_drops 12 = .ok (.if_icmp .le 5, 3) := by decide +kernel
theorem d_S_drops_15 : decode b_S_drops 15 = .ok (.iconst 0, 1) := by decide +kernel
theorem d_S_drops_16 : decode b_S_drops 16 = .ok (.ireturn, 1) := by decide +kernel
theorem d_S_drops_17 : decode b_S_drops 17 = .ok (.aload_n 0, 1) := by decide +kernel
theorem d_S_drops_18 : decode b_S_drops 18 = .ok (.getfield 35, 3) := by decide +kernel
theorem d_S_drops_21 : decode b_S_drops 21 = .ok (.aload_n 0, 1) := by decide +kernel
theorem d_S_drops_22 : decode b_S_drops 22 = .ok (.getfield 14, 3) := by decide +kernel
theorem d_S_drops_25 : decode b_S_drops 25 = .ok (.aload_n 0, 1) := by decide +kernel
theorem d_S_drops_26 : decode b_S_drops 26 = .ok (.getfield 14, 3) := by decide +kernel
theorem d_S_drops_29 : decode b_S_drops 29 = .ok (.getfield 54, 3) := by decide +kernel
theorem d_S_drops_32 : decode b_S_drops 32 = .ok (.iload_n 1, 1) := by decide +kernel
theorem d_S_drops_33 : decode b_S_drops 33 = .ok (.isub, 1) := by decide +kernel
theorem d_S_drops_34 : decode b_S_drops 34 = .ok (.invokevirtual 109, 3) := by decide +kernel
theorem d_S_drops_37 : decode b_S_drops 37 = .ok (.ireturn, 1) := by decide +kernel
theorem d_S_measureAll_0 : decode b_S_measureAll 0 = .ok (.iconst 0, 1) := by decide +kernel
theorem d_S_measureAll_1 : decode b_S_measureAll 1 = .ok (.istore_n 1, 1) := by decide +kernel
theorem d_S_measureAll_2 : decode b_S_measureAll 2 = .ok (.iload_n 1, 1) := by decide +kernel
theorem d_S_measureAll_3 : decode b_S_measureAll 3 = .ok (.aload_n 0, 1) := by decide +kernel
theorem d_S_measureAll_4 : decode b_S_measureAll 4 = .ok (.getfield 21, 3) := by decide +kernel
theorem d_S_measureAll_7 : decode b_S_measureAll 7 = .ok (.getfield 78, 3) := by decide +kernel
theorem d_S_measureAll_10 : decode b_S_measureAll 10 = .ok (.if_icmp .ge 34, 3) := by decide +kernel
theorem d_S_measureAll_13 : decode b_S_measureAll 13 = .ok (.aload_n 0, 1) := by decide +kernel
theorem d_S_measureAll_14 : decode b_S_measureAll 14 = .ok (.getfield 39, 3) := by decide +kernel
theorem d_S_measureAll_17 : decode b_S_measureAll 17 = .ok (.iload_n 1, 1) := by decide +kernel
theorem d_S_measureAll_18 : decode b_S_measureAll 18 = .ok (.aload_n 0, 1) := by decide +kernel
theorem d_S_measureAll_19 : decode b_S_measureAll 19 = .ok (.getfield 28, 3) := by decide +kernel
theorem d_S_measureAll_22 : decode b_S_measureAll 22 = .ok (.aload_n 0, 1) := by decide +kernel
theorem d_S_measureAll_23 : decode b_S_measureAll 23 = .ok (.getfield 14, 3) := by decide +kernel
theorem d_S_measureAll_26 : decode b_S_measureAll 26 = .ok (.aload_n 0, 1) := by decide +kernel
theorem d_S_measureAll_27 : decode b_S_measureAll 27 = .ok (.getfield 21, 3) := by decide +kernel
theorem d_S_measureAll_30 : decode b_S_measureAll 30 = .ok (.iload_n 1, 1) := by decide +kernel
theorem d_S_measureAll_31 : decode b_S_measureAll 31 = .ok (.invokevirtual 82, 3) := by decide +kernel
theorem d_S_measureAll_34 : decode b_S_measureAll 34 = .ok (.invokevirtual 89, 3) := by decide +kernel
theorem d_S_measureAll_37 : decode b_S_measureAll 37 = .ok (.iastore, 1) := by decide +kernel
theorem d_S_measureAll_38 : decode b_S_measureAll 38 = .ok (.iinc 1 1, 3) := by decide +kernel
theorem d_S_measureAll_41 : decode b_S_measureAll 41 = .ok (.goto (-39), 3) := by decide +kernel
theorem d_S_measureAll_44 : decode b_S_measureAll 44 = .ok (.return_, 1) := by decide +kernel
theorem d_S_placeAmongSuggestions_0 : decode b_S_placeAmongSuggestions 0 = .ok (.iconst 0, 1) := by decide +kernel
theorem d_S_placeAmongSuggestions_1 : decode b_S_placeAmongSuggestions 1 = .ok (.istore_n 2, 1) := by decide +kernel
theorem d_S_placeAmongSuggestions_2 : decode b_S_placeAmongSuggestions 2 = .ok (.iconst 0, 1) := by decide +kernel
theorem d_S_placeAmongSuggestions_3 : decode b_S_placeAmongSuggestions 3 = .ok (.istore_n 3, 1) := by decide +kernel
theorem d_S_placeAmongSuggestions_4 : decode b_S_placeAmongSuggestions 4 = .ok (.iload_n 3, 1) := by decide +kernel
theorem d_S_placeAmongSuggestions_5 : decode b_S_placeAmongSuggestions 5 = .ok (.aload_n 0, 1) := by decide +kernel
theorem d_S_placeAmongSuggestions_6 : decode b_S_placeAmongSuggestions 6 = .ok (.getfield 21, 3) := by decide +kernel
theorem d_S_placeAmongSuggestions_9 : decode b_S_placeAmongSuggestions 9 = .ok (.getfield 78, 3) := by decide +kernel
theorem d_S_placeAmongSuggestions_12 : decode b_S_placeAmongSuggestions 12 = .ok (.if_icmp .ge 21, 3) := by decide +kernel
theorem d_S_placeAmongSuggestions_15 : decode b_S_placeAmongSuggestions 15 = .ok (.aload_n 0, 1) := by decide +kernel
theorem d_S_placeAmongSuggestions_16 : decode b_S_placeAmongSuggestions 16 = .ok (.iload_n 3, 1) := by decide +kernel
theorem d_S_placeAmongSuggestions_17 : decode b_S_placeAmongSuggestions 17 = .ok (.iload_n 1, 1) := by decide +kernel
theorem d_S_placeAmongSuggestions_18 : decode b_S_placeAmongSuggestions 18 = .ok (.invokevirtual 113, 3) := by decide +kernel
theorem d_S_placeAmongSuggestions_21 : decode b_S_placeAmongSuggestions 21 = .ok (.ifCond .eq 6, 3) := by decide +kernel
theorem d_S_placeAmongSuggestions_24 : decode b_S_placeAmongSuggestions 24 = .ok (.iinc 2 1, 3) := by decide +kernel
theorem d_S_placeAmongSuggestions_27 : decode b_S_placeAmongSuggestions 27 = .ok (.iinc 3 1, 3) := by decide +kernel
theorem d_S_placeAmongSuggestions_30 : decode b_S_placeAmongSuggestions 30 = .ok (.goto (-26), 3) := by decide +kernel
theorem d_S_placeAmongSuggestions_33 : decode b_S_placeAmongSuggestions 33 = .ok (.iload_n 2, 1) := by decide +kernel
theorem d_S_placeAmongSuggestions_34 : decode b_S_placeAmongSuggestions 34 = .ok (.ireturn, 1) := by decide +kernel
theorem d_S_isSuggestedBefore_0 : decode b_S_isSuggestedBefore 0 = .ok (.aload_n 0, 1) := by decide +kernel
theorem d_S_isSuggestedBefore_1 : decode b_S_isSuggestedBefore 1 = .ok (.getfield 39, 3) := by decide +kernel
theorem d_S_isSuggestedBefore_4 : decode b_S_isSuggestedBefore 4 = .ok (.iload_n 1, 1) := by decide +kernel
theorem d_S_isSuggestedBefore_5 : decode b_S_isSuggestedBefore 5 = .ok (.iaload, 1) := by decide +kernel
theorem d_S_isSuggestedBefore_6 : decode b_S_isSuggestedBefore 6 = .ok (.aload_n 0, 1) := by decide +kernel
theorem d_S_isSuggestedBefore_7 : decode b_S_isSuggestedBefore 7 = .ok (.getfield 39, 3) := by decide +kernel
theorem d_S_isSuggestedBefore_10 : decode b_S_isSuggestedBefore 10 = .ok (.iload_n 2, 1) := by decide +kernel
theorem d_S_isSuggestedBefore_11 : decode b_S_isSuggestedBefore 11 = .ok (.iaload, 1) := by decide +kernel
theorem d_S_isSuggestedBefore_12 : decode b_S_isSuggestedBefore 12 = .ok (.if_icmp .eq 24, 3) := by decide +kernel
theorem d_S_isSuggestedBefore_15 : decode b_S_isSuggestedBefore 15 = .ok (.aload_n 0, 1) := by decide +kernel
theorem d_S_isSuggestedBefore_16 : decode b_S_isSuggestedBefore 16 = .ok (.getfield 39, 3) := by decide +kernel
theorem d_S_isSuggestedBefore_19 : decode b_S_isSuggestedBefore 19 = .ok (.iload_n 1, 1) := by decide +kernel
theorem d_S_isSuggestedBefore_20 : decode b_S_isSuggestedBefore 20 = .ok (.iaload, 1) := by decide +kernel
theorem d_S_isSuggestedBefore_21 : decode b_S_isSuggestedBefore 21 = .ok (.aload_n 0, 1) := by decide +kernel
theorem d_S_isSuggestedBefore_22 : decode b_S_isSuggestedBefore 22 = .ok (.getfield 39, 3) := by decide +kernel
theorem d_S_isSuggestedBefore_25 : decode b_S_isSuggestedBefore 25 = .ok (.iload_n 2, 1) := by decide +kernel
theorem d_S_isSuggestedBefore_26 : decode b_S_isSuggestedBefore 26 = .ok (.iaload, 1) := by decide +kernel
theorem d_S_isSuggestedBefore_27 : decode b_S_isSuggestedBefore 27 = .ok (.if_icmp .ge 7, 3) := by decide +kernel
theorem d_S_isSuggestedBefore_30 : decode b_S_isSuggestedBefore 30 = .ok (.iconst 1, 1) := by decide +kernel
theorem d_S_isSuggestedBefore_31 : decode b_S_isSuggestedBefore 31 = .ok (.goto 4, 3) := by decide +kernel
theorem d_S_isSuggestedBefore_34 : decode b_S_isSuggestedBefore 34 = .ok (.iconst 0, 1) := by decide +kernel
theorem d_S_isSuggestedBefore_35 : decode b_S_isSuggestedBefore 35 = .ok (.ireturn, 1) := by decide +kernel
theorem d_S_isSuggestedBefore_36 : decode b_S_isSuggestedBefore 36 = .ok (.aload_n 0, 1) := by decide +kernel
theorem d_S_isSuggestedBefore_37 : decode b_S_isSuggestedBefore 37 = .ok (.getfield 21, 3) := by decide +kernel
theorem d_S_isSuggestedBefore_40 : decode b_S_isSuggestedBefore 40 = .ok (.iload_n 1, 1) := by decide +kernel
theorem d_S_isSuggestedBefore_41 : decode b_S_isSuggestedBefore 41 = .ok (.iload_n 2, 1) := by decide +kernel
theorem d_S_isSuggestedBefore_42 : decode b_S_isSuggestedBefore 42 = .ok (.invokevirtual 117, 3) := by decide +kernel
theorem d_S_isSuggestedBefore_45 : decode b_S_isSuggestedBefore 45 = .ok (.ireturn, 1) := by decide +kernel
theorem d_S_placeAmongCompletions_0 : decode b_S_placeAmongCompletions 0 = .ok (.iconst 0, 1) := by decide +kernel
theorem d_S_placeAmongCompletions_1 : decode b_S_placeAmongCompletions 1 = .ok (.istore_n 2, 1) := by decide +kernel
theorem d_S_placeAmongCompletions_2 : decode b_S_placeAmongCompletions 2 = .ok (.iconst 0, 1) := by decide +kernel
theorem d_S_placeAmongCompletions_3 : decode b_S_placeAmongCompletions 3 = .ok (.istore_n 3, 1) := by decide +kernel
theorem d_S_placeAmongCompletions_4 : decode b_S_placeAmongCompletions 4 = .ok (.iload_n 3, 1) := by decide +kernel
theorem d_S_placeAmongCompletions_5 : decode b_S_placeAmongCompletions 5 = .ok (.aload_n 0, 1) := by decide +kernel
theorem d_S_placeAmongCompletions_6 : decode b_S_placeAmongCompletions 6 = .ok (.getfield 21, 3) := by decide +kernel
theorem d_S_placeAmongCompletions_9 : decode b_S_placeAmongCompletions 9 = .ok (.getfield 78, 3) := by decide +kernel
theorem d_S_placeAmongCompletions_12 : decode b_S_placeAmongCompletions 12 = .ok (.if_icmp .ge 32, 3) := by decide +kernel
theorem d_S_placeAmongCompletions_15 : decode b_S_placeAmongCompletions 15 = .ok (.aload_n 0, 1) := by decide +kernel
theorem d_S_placeAmongCompletions_16 : decode b_S_placeAmongCompletions 16 = .ok (.iload_n 3, 1) := by decide +kernel
theorem d_S_placeAmongCompletions_17 : decode b_S_placeAmongCompletions 17 = .ok (.invokevirtual 99, 3) := by decide +kernel
theorem d_S_placeAmongCompletions_20 : decode b_S_placeAmongCompletions 20 = .ok (.ifCond .eq 18, 3) := by decide +kernel
theorem d_S_placeAmongCompletions_23 : decode b_S_placeAmongCompletions 23 = .ok (.aload_n 0, 1) := by decide +kernel
theorem d_S_placeAmongCompletions_24 : decode b_S_placeAmongCompletions 24 = .ok (.getfield 21, 3) := by decide +kernel
theorem d_S_placeAmongCompletions_27 : decode b_S_placeAmongCompletions 27 = .ok (.iload_n 3, 1) := by decide +kernel
theorem d_S_placeAmongCompletions_28 : decode b_S_placeAmongCompletions 28 = .ok (.iload_n 1, 1) := by decide +kernel
theorem d_S_placeAmongCompletions_29 : decode b_S_placeAmongCompletions 29 = .ok (.invokevirtual 117, 3) := by decide +kernel
theorem d_S_placeAmongCompletions_32 : decode b_S_placeAmongCompletions 32 = .ok (.ifCond .eq 6, 3) := by decide +kernel
theorem d_S_placeAmongCompletions_35 : decode b_S_placeAmongCompletions 35 = .ok (.iinc 2 1, 3) := by decide +kernel
theorem d_S_placeAmongCompletions_38 : decode b_S_placeAmongCompletions 38 = .ok (.iinc 3 1, 3) := by decide +kernel
theorem d_S_placeAmongCompletions_41 : decode b_S_placeAmongCompletions 41 = .ok (.goto (-37), 3) := by decide +kernel
theorem d_S_placeAmongCompletions_44 : decode b_S_placeAmongCompletions 44 = .ok (.iload_n 2, 1) := by decide +kernel
theorem d_S_placeAmongCompletions_45 : decode b_S_placeAmongCompletions 45 = .ok (.ireturn, 1) := by decide +kernel
theorem d_S_isCompletion_0 : decode b_S_isCompletion 0 = .ok (.aload_n 0, 1) := by decide +kernel
theorem d_S_isCompletion_1 : decode b_S_isCompletion 1 = .ok (.getfield 21, 3) := by decide +kernel
theorem d_S_isCompletion_4 : decode b_S_isCompletion 4 = .ok (.iload_n 1, 1) := by decide +kernel
theorem d_S_isCompletion_5 : decode b_S_isCompletion 5 = .ok (.invokevirtual 82, 3) := by decide +kernel
theorem d_S_isCompletion_8 : decode b_S_isCompletion 8 = .ok (.aload_n 0, 1) := by decide +kernel
theorem d_S_isCompletion_9 : decode b_S_isCompletion 9 = .ok (.getfield 14, 3) := by decide +kernel
theorem d_S_isCompletion_12 : decode b_S_isCompletion 12 = .ok (.invokevirtual 120, 3) := by decide +kernel
theorem d_S_isCompletion_15 : decode b_S_isCompletion 15 = .ok (.ireturn, 1) := by decide +kernel
theorem d_D_init_0 : decode b_D_init 0 = .ok (.aload_n 0, 1) := by decide +kernel
theorem d_D_init_1 : decode b_D_init 1 = .ok (.invokespecial 3, 3) := by decide +kernel
theorem d_D_init_4 : decode b_D_init 4 = .ok (.aload_n 0, 1) := by decide +kernel
theorem d_D_init_5 : decode b_D_init 5 = .ok (.bipush 24, 2) := by decide +kernel
theorem d_D_init_7 : decode b_D_init 7 = .ok (.anewarray 9, 3) := by decide +kernel
theorem d_D_init_10 : decode b_D_init 10 = .ok (.putfield 11, 3) := by decide +kernel
theorem d_D_init_13 : decode b_D_init 13 = .ok (.iconst 0, 1) := by decide +kernel
theorem d_D_init_14 : decode b_D_init 14 = .ok (.istore_n 1, 1) := by decide +kernel
theorem d_D_init_15 : decode b_D_init 15 = .ok (.iload_n 1, 1) := by decide +kernel
theorem d_D_init_16 : decode b_D_init 16 = .ok (.bipush 24, 2) := by decide +kernel
theorem d_D_init_18 : decode b_D_init 18 = .ok (.if_icmp .ge 22, 3) := by decide +kernel
theorem d_D_init_21 : decode b_D_init 21 = .ok (.aload_n 0, 1) := by decide +kernel
theorem d_D_init_22 : decode b_D_init 22 = .ok (.getfield 11, 3) := by decide +kernel
theorem d_D_init_25 : decode b_D_init 25 = .ok (.iload_n 1, 1) := by decide +kernel
theorem d_D_init_26 : decode b_D_init 26 = .ok (.new 9, 3) := by decide +kernel
theorem d_D_init_29 : decode b_D_init 29 = .ok (.dup, 1) := by decide +kernel
theorem d_D_init_30 : decode b_D_init 30 = .ok (.invokespecial 17, 3) := by decide +kernel
theorem d_D_init_33 : decode b_D_init 33 = .ok (.aastore, 1) := by decide +kernel
theorem d_D_init_34 : decode b_D_init 34 = .ok (.iinc 1 1, 3) := by decide +kernel
theorem d_D_init_37 : decode b_D_init 37 = .ok (.goto (-22), 3) := by decide +kernel
theorem d_D_init_40 : decode b_D_init 40 = .ok (.aload_n 0, 1) := by decide +kernel
theorem d_D_init_41 : decode b_D_init 41 = .ok (.iconst 0, 1) := by decide +kernel
theorem d_D_init_42 : decode b_D_init 42 = .ok (.putfield 18, 3) := by decide +kernel
theorem d_D_init_45 : decode b_D_init 45 = .ok (.return_, 1) := by decide +kernel
theorem d_D_has_0 : decode b_D_has 0 = .ok (.iload_n 1, 1) := by decide +kernel
theorem d_D_has_1 : decode b_D_has 1 = .ok (.ifCond .lt 15, 3) := by decide +kernel
theorem d_D_has_4 : decode b_D_has 4 = .ok (.iload_n 1, 1) := by decide +kernel
theorem d_D_has_5 : decode b_D_has 5 = .ok (.aload_n 0, 1) := by decide +kernel
theorem d_D_has_6 : decode b_D_has 6 = .ok (.getfield 18, 3) := by decide +kernel
theorem d_D_has_9 : decode b_D_has 9 = .ok (.if_icmp .ge 7, 3) := by decide +kernel
theorem d_D_has_12 : decode b_D_has 12 = .ok (.iconst 1, 1) := by decide +kernel
theorem d_D_has_13 : decode b_D_has 13 = .ok (.goto 4, 3) := by decide +kernel
theorem d_D_has_16 : decode b_D_has 16 = .ok (.iconst 0, 1) := by decide +kernel
theorem d_D_has_17 : decode b_D_has 17 = .ok (.ireturn, 1) := by decide +kernel
theorem d_D_lettersOf_0 : decode b_D_lettersOf 0 = .ok (.aload_n 0, 1) := by decide +kernel
theorem d_D_lettersOf_1 : decode b_D_lettersOf 1 = .ok (.getfield 11, 3) := by decide +kernel
theorem d_D_lettersOf_4 : decode b_D_lettersOf 4 = .ok (.iload_n 1, 1) := by decide +kernel
theorem d_D_lettersOf_5 : decode b_D_lettersOf 5 = .ok (.aaload, 1) := by decide +kernel
theorem d_D_lettersOf_6 : decode b_D_lettersOf 6 = .ok (.getfield 22, 3) := by decide +kernel
theorem d_D_lettersOf_9 : decode b_D_lettersOf 9 = .ok (.areturn, 1) := by decide +kernel
theorem d_D_timesOf_0 : decode b_D_timesOf 0 = .ok (.aload_n 0, 1) := by decide +kernel
theorem d_D_timesOf_1 : decode b_D_timesOf 1 = .ok (.getfield 11, 3) := by decide +kernel
theorem d_D_timesOf_4 : decode b_D_timesOf 4 = .ok (.iload_n 1, 1) := by decide +kernel
theorem d_D_timesOf_5 : decode b_D_timesOf 5 = .ok (.aaload, 1) := by decide +kernel
theorem d_D_timesOf_6 : decode b_D_timesOf 6 = .ok (.getfield 26, 3) := by decide +kernel
theorem d_D_timesOf_9 : decode b_D_timesOf 9 = .ok (.ireturn, 1) := by decide +kernel
theorem d_D_addTimes_0 : decode b_D_addTimes 0 = .ok (.aload_n 0, 1) := by decide +kernel
theorem d_D_addTimes_1 : decode b_D_addTimes 1 = .ok (.getfield 11, 3) := by decide +kernel
theorem d_D_addTimes_4 : decode b_D_addTimes 4 = .ok (.iload_n 1, 1) := by decide +kernel
theorem d_D_addTimes_5 : decode b_D_addTimes 5 = .ok (.aaload, 1) := by decide +kernel
theorem d_D_addTimes_6 : decode b_D_addTimes 6 = .ok (.ldc 29, 2) := by decide +kernel
theorem d_D_addTimes_8 : decode b_D_addTimes 8 = .ok (.aload_n 0, 1) := by decide +kernel
theorem d_D_addTimes_9 : decode b_D_addTimes 9 = .ok (.getfield 11, 3) := by decide +kernel
theorem d_D_addTimes_12 : decode b_D_addTimes 12 = .ok (.iload_n 1, 1) := by decide +kernel
theorem d_D_addTimes_13 : decode b_D_addTimes 13 = .ok (.aaload, 1) := by decide +kernel
theorem d_D_addTimes_14 : decode b_D_addTimes 14 = .ok (.getfield 26, 3) := by decide +kernel
theorem d_D_addTimes_17 : decode b_D_addTimes 17 = .ok (.iload_n 2, 1) := by decide +kernel
theorem d_D_addTimes_18 : decode b_D_addTimes 18 = .ok (.iadd, 1) := by decide +kernel
theorem d_D_addTimes_19 : decode b_D_addTimes 19 = .ok (.invokestatic 30, 3) := by decide +kernel
theorem d_D_addTimes_22 : decode b_D_addTimes 22 = .ok (.putfield 26, 3) := by decide +kernel
theorem d_D_addTimes_25 : decode b_D_addTimes 25 = .ok (.return_, 1) := by decide +kernel
theorem d_D_isPreferred_0 : decode b_D_isPreferred 0 = .ok (.aload_n 0, 1) := by decide +kernel
theorem d_D_isPreferred_1 : decode b_D_isPreferred 1 = .ok (.getfield 11, 3) := by decide +kernel
theorem d_D_isPreferred_4 : decode b_D_isPreferred 4 = .ok (.iload_n 1, 1) := by decide +kernel
theorem d_D_isPreferred_5 : decode b_D_isPreferred 5 = .ok (.aaload, 1) := by decide +kernel
theorem d_D_isPreferred_6 : decode b_D_isPreferred 6 = .ok (.getfield 26, 3) := by decide +kernel
theorem d_D_isPreferred_9 : decode b_D_isPreferred 9 = .ok (.aload_n 0, 1) := by decide +kernel
theorem d_D_isPreferred_10 : decode b_D_isPreferred 10 = .ok (.getfield 11, 3) := by decide +kernel
theorem d_D_isPreferred_13 : decode b_D_isPreferred 13 = .ok (.iload_n 2, 1) := by decide +kernel
theorem d_D_isPreferred_14 : decode b_D_isPreferred 14 = .ok (.aaload, 1) := by decide +kernel
theorem d_D_isPreferred_15 : decode b_D_isPreferred 15 = .ok (.getfield 26, 3) := by decide +kernel
theorem d_D_isPreferred_18 : decode b_D_isPreferred 18 = .ok (.if_icmp .eq 30, 3) := by decide +kernel
theorem d_D_isPreferred_21 : decode b_D_isPreferred 21 = .ok (.aload_n 0, 1) := by decide +kernel
theorem d_D_isPreferred_22 : decode b_D_isPreferred 22 = .ok (.getfield 11, 3) := by decide +kernel
theorem d_D_isPreferred_25 : decode b_D_isPreferred 25 = .ok (.iload_n 1, 1) := by decide +kernel
theorem d_D_isPreferred_26 : decode b_D_isPreferred 26 = .ok (.aaload, 1) := by decide +kernel
theorem d_D_isPreferred_27 : decode b_D_isPreferred 27 = .ok (.getfield 26, 3) := by decide +kernel
theorem d_D_isPreferred_30 : decode b_D_isPreferred 30 = .ok (.aload_n 0, 1) := by decide +kernel
theorem d_D_isPreferred_31 : decode b_D_isPreferred 31 = .ok (.getfield 11, 3) := by decide +kernel
theorem d_D_isPreferred_34 : decode b_D_isPreferred 34 = .ok (.iload_n 2, 1) := by decide +kernel
theorem d_D_isPreferred_35 : decode b_D_isPreferred 35 = .ok (.aaload, 1) := by decide +kernel
theorem d_D_isPreferred_36 : decode b_D_isPreferred 36 = .ok (.getfield 26, 3) := by decide +kernel
theorem d_D_isPreferred_39 : decode b_D_isPreferred 39 = .ok (.if_icmp .le 7, 3) := by decide +kernel
theorem d_D_isPreferred_42 : decode b_D_isPreferred 42 = .ok (.iconst 1, 1) := by decide +kernel
theorem d_D_isPreferred_43 : decode b_D_isPreferred 43 = .ok (.goto 4, 3) := by decide +kernel
theorem d_D_isPreferred_46 : decode b_D_isPreferred 46 = .ok (.iconst 0, 1) := by decide +kernel
theorem d_D_isPreferred_47 : decode b_D_isPreferred 47 = .ok (.ireturn, 1) := by decide +kernel
theorem d_D_isPreferred_48 : decode b_D_isPreferred 48 = .ok (.iload_n 1, 1) := by decide +kernel
theorem d_D_isPreferred_49 : decode b_D_isPreferred 49 = .ok (.iload_n 2, 1) := by decide +kernel
theorem d_D_isPreferred_50 : decode b_D_isPreferred 50 = .ok (.if_icmp .ge 7, 3) := by decide +kernel
theorem d_D_isPreferred_53 : decode b_D_isPreferred 53 = .ok (.iconst 1, 1) := by decide +kernel
theorem d_D_isPreferred_54 : decode b_D_isPreferred 54 = .ok (.goto 4, 3) := by decide +kernel
theorem d_D_isPreferred_57 : decode b_D_isPreferred 57 = .ok (.iconst 0, 1) := by decide +kernel
theorem d_D_isPreferred_58 : decode b_D_isPreferred 58 = .ok (.ireturn, 1) := by decide +kernel
theorem d_D_find_0 : decode b_D_find 0 = .ok (.iconst 0, 1) := by decide +kernel
theorem d_D_find_1 : decode b_D_find 1 = .ok (.istore_n 2, 1) := by decide +kernel
theorem d_D_find_2 : decode b_D_find 2 = .ok (.iload_n 2, 1) := by decide +kernel
theorem d_D_find_3 : decode b_D_find 3 = .ok (.aload_n 0, 1) := by decide +kernel
theorem d_D_find_4 : decode b_D_find 4 = .ok (.getfield 18, 3) := by decide +kernel
theorem d_D_find_7 : decode b_D_find 7 = .ok (.if_icmp .ge 27, 3) := by decide +kernel
theorem d_D_find_10 : decode b_D_find 10 = .ok (.aload_n 0, 1) := by decide +kernel
theorem d_D_find_11 : decode b_D_find 11 = .ok (.getfield 11, 3) := by decide +kernel
theorem d_D_find_14 : decode b_D_find 14 = .ok (.iload_n 2, 1) := by decide +kernel
theorem d_D_find_15 : decode b_D_find 15 = .ok (.aaload, 1) := by decide +kernel
theorem d_D_find_16 : decode b_D_find 16 = .ok (.getfield 22, 3) := by decide +kernel
theorem d_D_find_19 : decode b_D_find 19 = .ok (.aload_n 1, 1) := by decide +kernel
theorem d_D_find_20 : decode b_D_find 20 = .ok (.invokevirtual 36, 3) := by decide +kernel
theorem d_D_find_23 : decode b_D_find 23 = .ok (.ifCond .eq 5, 3) := by decide +kernel
theorem d_D_find_26 : decode b_D_find 26 = .ok (.iload_n 2, 1) := by decide +kernel
theorem d_D_find_27 : decode b_D_find 27 = .ok (.ireturn, 1) := by decide +kernel
theorem d_D_find_28 : decode b_D_find 28 = .ok (.iinc 2 1, 3) := by decide +kernel
theorem d_D_find_31 : decode b_D_find 31 = .ok (.goto (-29), 3) := by decide +kernel
theorem d_D_find_34 : decode b_D_find 34 = .ok (.iconst (-1), 1) := by decide +kernel
theorem d_D_find_35 : decode b_D_find 35 = .ok (.ireturn, 1) := by decide +kernel
theorem d_D_insert_0 : decode b_D_insert 0 = .ok (.aload_n 0, 1) := by decide +kernel
theorem d_D_insert_1 : decode b_D_insert 1 = .ok (.getfield 18, 3) := by decide +kernel
theorem d_D_insert_4 : decode b_D_insert 4 = .ok (.bipush 24, 2) := by decide +kernel
theorem d_D_insert_6 : decode b_D_insert 6 = .ok (.if_icmp .lt 5, 3) := by decide +kernel
theorem d_D_insert_9 : decode b_D_insert 9 = .ok (.iconst 0, 1) := by decide +kernel
theorem d_D_insert_10 : decode b_D_insert 10 = .ok (.ireturn, 1) := by decide +kernel
theorem d_D_insert_11 : decode b_D_insert 11 = .ok (.aload_n 0, 1) := by decide +kernel
theorem d_D_insert_12 : decode b_D_insert 12 = .ok (.getfield 11, 3) := by decide +kernel
theorem d_D_insert_15 : decode b_D_insert 15 = .ok (.aload_n 0, 1) := by decide +kernel
theorem d_D_insert_16 : decode b_D_insert 16 = .ok (.getfield 18, 3) := by decide +kernel
theorem d_D_insert_19 : decode b_D_insert 19 = .ok (.aaload, 1) := by decide +kernel
theorem d_D_insert_20 : decode b_D_insert 20 = .ok (.astore_n 3, 1) := by decide +kernel
theorem d_D_insert_21 : decode b_D_insert 21 = .ok (.aload_n 3, 1) := by decide +kernel
theorem d_D_insert_22 : decode b_D_insert 22 = .ok (.getfield 22, 3) := by decide +kernel
theorem d_D_insert_25 : decode b_D_insert 25 = .ok (.aload_n 1, 1) := by decide +kernel
theorem d_D_insert_26 : decode b_D_insert 26 = .ok (.invokevirtual 42, 3) := by decide +kernel
theorem d_D_insert_29 : decode b_D_insert 29 = .ok (.aload_n 3, 1) := by decide +kernel
theorem d_D_insert_30 : decode b_D_insert 30 = .ok (.iload_n 2, 1) := by decide +kernel
theorem d_D_insert_31 : decode b_D_insert 31 = .ok (.putfield 26, 3) := by decide +kernel
theorem d_D_insert_34 : decode b_D_insert 34 = .ok (.aload_n 0, 1) := by decide +kernel
theorem d_D_insert_35 : decode b_D_insert 35 = .ok (.aload_n 1, 1) := by decide +kernel
theorem d_D_insert_36 : decode b_D_insert 36 = .ok (.invokevirtual 46, 3) := by decide +kernel
theorem d_D_insert_39 : decode b_D_insert 39 = .ok (.istore 4, 2) := by decide +kernel
theorem d_D_insert_41 : decode b_D_insert 41 = .ok (.aload_n 0, 1) := by decide +kernel
theorem d_D_insert_42 : decode b_D_insert 42 = .ok (.getfield 18, 3) := by decide +kernel
theorem d_D_insert_45 : decode b_D_insert 45 = .ok (.istore 5, 2) := by decide +kernel
theorem d_D_insert_47 : decode b_D_insert 47 = .ok (.iload 5, 2) := by decide +kernel
theorem d_D_insert_49 : decode b_D_insert 49 = .ok (.iload 4, 2) := by decide +kernel
theorem d_D_insert_51 : decode b_D_insert 51 = .ok (.if_icmp .le 25, 3) := by decide +kernel
theorem d_D_insert_54 : decode b_D_insert 54 = .ok (.aload_n 0, 1) := by decide +kernel
theorem d_D_insert_55 : decode b_D_insert 55 = .ok (.getfield 11, 3) := by decide +kernel
theorem d_D_insert_58 : decode b_D_insert 58 = .ok (.iload 5, 2) := by decide +kernel
theorem d_D_insert_60 : decode b_D_insert 60 = .ok (.aload_n 0, 1) := by decide +kernel
theorem d_D_insert_61 : decode b_D_insert 61 = .ok (.getfield 11, 3) := by decide +kernel
theorem d_D_insert_64 : decode b_D_insert 64 = .ok (.iload 5, 2) := by decide +kernel
theorem d_D_insert_66 : decode b_D_insert 66 = .ok (.iconst 1, 1) := by decide +kernel
theorem d_D_insert_67 : decode b_D_insert 67 = .ok (.isub, 1) := by decide +kernel
theorem d_D_insert_68 : decode b_D_insert 68 = .ok (.aaload, 1) := by decide +kernel
theorem d_D_insert_69 : decode b_D_insert 69 = .ok (.aastore, 1) := by decide +kernel
theorem d_D_insert_70 : decode b_D_insert 70 = .ok (.iinc 5 (-1), 3) := by decide +kernel
theorem d_D_insert_73 : decode b_D_insert 73 = .ok (.goto (-26), 3) := by decide +kernel
theorem d_D_insert_76 : decode b_D_insert 76 = .ok (.aload_n 0, 1) := by decide +kernel
theorem d_D_insert_77 : decode b_D_insert 77 = .ok (.getfield 11, 3) := by decide +kernel
theorem d_D_insert_80 : decode b_D_insert 80 = .ok (.iload 4, 2) := by decide +kernel
theorem d_D_insert_82 : decode b_D_insert 82 = .ok (.aload_n 3, 1) := by decide +kernel
theorem d_D_insert_83 : decode b_D_insert 83 = .ok (.aastore, 1) := by decide +kernel
theorem d_D_insert_84 : decode b_D_insert 84 = .ok (.aload_n 0, 1) := by decide +kernel
theorem d_D_insert_85 : decode b_D_insert 85 = .ok (.dup, 1) := by decide +kernel
theorem d_D_insert_86 : decode b_D_insert 86 = .ok (.getfield 18, 3) := by decide +kernel
theorem d_D_insert_89 : decode b_D_insert 89 = .ok (.iconst 1, 1) := by decide +kernel
theorem d_D_insert_90 : decode b_D_insert 90 = .ok (.iadd, 1) := by decide +kernel
theorem d_D_insert_91 : decode b_D_insert 91 = .ok (.putfield 18, 3) := by decide +kernel
theorem d_D_insert_94 : decode b_D_insert 94 = .ok (.iconst 1, 1) := by decide +kernel
theorem d_D_insert_95 : decode b_D_insert 95 = .ok (.ireturn, 1) := by decide +kernel
theorem d_D_remove_0 : decode b_D_remove 0 = .ok (.aload_n 0, 1) := by decide +kernel
theorem d_D_remove_1 : decode b_D_remove 1 = .ok (.iload_n 1, 1) := by decide +kernel
theorem d_D_remove_2 : decode b_D_remove 2 = .ok (.invokevirtual 50, 3) := by decide +kernel
theorem d_D_remove_5 : decode b_D_remove 5 = .ok (.ifCond .ne 5, 3) := by decide +kernel
theorem d_D_remove_8 : decode b_D_remove 8 = .ok (.iconst 0, 1) := by decide +kernel
theorem d_D_remove_9 : decode b_D_remove 9 = .ok (.ireturn, 1) := by decide +kernel
theorem d_D_remove_10 : decode b_D_remove 10 = .ok (.aload_n 0, 1) := by decide +kernel
theorem d_D_remove_11 : decode b_D_remove 11 = .ok (.getfield 11, 3) := by decide +kernel
theorem d_D_remove_14 : decode b_D_remove 14 = .ok (.iload_n 1, 1) := by decide +kernel
theorem d_D_remove_15 : decode b_D_remove 15 = .ok (.aaload, 1) := by decide +kernel
theorem d_D_remove_16 : decode b_D_remove 16 = .ok (.astore_n 2, 1) := by decide +kernel
theorem d_D_remove_17 : decode b_D_remove 17 = .ok (.aload_n 0, 1) := by decide +kernel
theorem d_D_remove_18 : decode b_D_remove 18 = .ok (.dup, 1) := by decide +kernel
theorem d_D_remove_19 : decode b_D_remove 19 = .ok (.getfield 18, 3) := by decide +kernel
theorem d_D_remove_22 : decode b_D_remove 22 = .ok (.iconst 1, 1) := by decide +kernel
theorem d_D_remove_23 : decode b_D_remove 23 = .ok (.isub, 1) := by decide +kernel
theorem d_D_remove_24 : decode b_D_remove 24 = .ok (.putfield 18, 3) := by decide +kernel
theorem d_D_remove_27 : decode b_D_remove 27 = .ok (.iload_n 1, 1) := by decide +kernel
theorem d_D_remove_28 : decode b_D_remove 28 = .ok (.istore_n 3, 1) := by decide +kernel
theorem d_D_remove_29 : decode b_D_remove 29 = .ok (.iload_n 3, 1) := by decide +kernel
theorem d_D_remove_30 : decode b_D_remove 30 = .ok (.aload_n 0, 1) := by decide +kernel
theorem d_D_remove_31 : decode b_D_remove 31 = .ok (.getfield 18, 3) := by decide +kernel
theorem d_D_remove_34 : decode b_D_remove 34 = .ok (.if_icmp .ge 23, 3) := by decide +kernel
theorem d_D_remove_37 : decode b_D_remove 37 = .ok (.aload_n 0, 1) := by decide +kernel
theorem d_D_remove_38 : decode b_D_remove 38 = .ok (.getfield 11, 3) := by decide +kernel
theorem d_D_remove_41 : decode b_D_remove 41 = .ok (.iload_n 3, 1) := by decide +kernel
theorem d_D_remove_42 : decode b_D_remove 42 = .ok (.aload_n 0, 1) := by decide +kernel
theorem d_D_remove_43 : decode b_D_remove 43 = .ok (.getfield 11, 3) := by decide +kernel
theorem d_D_remove_46 : decode b_D_remove 46 = .ok (.iload_n 3, 1) := by decide +kernel
theorem d_D_remove_47 : decode b_D_remove 47 = .ok (.iconst 1, 1) := by decide +kernel
theorem d_D_remove_48 : decode b_D_remove 48 = .ok (.iadd, 1) := by decide +kernel
theorem d_D_remove_49 : decode b_D_remove 49 = .ok (.aaload, 1) := by decide +kernel
theorem d_D_remove_50 : decode b_D_remove 50 = .ok (.aastore, 1) := by decide +kernel
theorem d_D_remove_51 : decode b_D_remove 51 = .ok (.iinc 3 1, 3) := by decide +kernel
theorem d_D_remove_54 : decode b_D_remove 54 = .ok (.goto (-25), 3) := by decide +kernel
theorem d_D_remove_57 : decode b_D_remove 57 = .ok (.aload_n 0, 1) := by decide +kernel
theorem d_D_remove_58 : decode b_D_remove 58 = .ok (.getfield 11, 3) := by decide +kernel
theorem d_D_remove_61 : decode b_D_remove 61 = .ok (.aload_n 0, 1) := by decide +kernel
theorem d_D_remove_62 : decode b_D_remove 62 = .ok (.getfield 18, 3) := by decide +kernel
theorem d_D_remove_65 : decode b_D_remove 65 = .ok (.aload_n 2, 1) := by decide +kernel
theorem d_D_remove_66 : decode b_D_remove 66 = .ok (.aastore, 1) := by decide +kernel
theorem d_D_remove_67 : decode b_D_remove 67 = .ok (.iconst 1, 1) := by decide +kernel
theorem d_D_remove_68 : decode b_D_remove 68 = .ok (.ireturn, 1) := by decide +kernel
theorem d_D_placeFor_0 : decode b_D_placeFor 0 = .ok (.iconst 0, 1) := by decide +kernel
theorem d_D_placeFor_1 : decode b_D_placeFor 1 = .ok (.istore_n 2, 1) := by decide +kernel
theorem d_D_placeFor_2 : decode b_D_placeFor 2 = .ok (.iconst 0, 1) := by decide +kernel
theorem d_D_placeFor_3 : decode b_D_placeFor 3 = .ok (.istore_n 3, 1) := by decide +kernel
theorem d_D_placeFor_4 : decode b_D_placeFor 4 = .ok (.iload_n 3, 1) := by decide +kernel
theorem d_D_placeFor_5 : decode b_D_placeFor 5 = .ok (.aload_n 0, 1) := by decide +kernel
theorem d_D_placeFor_6 : decode b_D_placeFor 6 = .ok (.getfield 18, 3) := by decide +kernel
theorem d_D_placeFor_9 : decode b_D_placeFor 9 = .ok (.if_icmp .ge 28, 3) := by decide +kernel
theorem d_D_placeFor_12 : decode b_D_placeFor 12 = .ok (.aload_n 0, 1) := by decide +kernel
theorem d_D_placeFor_13 : decode b_D_placeFor 13 = .ok (.getfield 11, 3) := by decide +kernel
theorem d_D_placeFor_16 : decode b_D_placeFor 16 = .ok (.iload_n 3, 1) := by decide +kernel
theorem d_D_placeFor_17 : decode b_D_placeFor 17 = .ok (.aaload, 1) := by decide +kernel
theorem d_D_placeFor_18 : decode b_D_placeFor 18 = .ok (.getfield 22, 3) := by decide +kernel
theorem d_D_placeFor_21 : decode b_D_placeFor 21 = .ok (.aload_n 1, 1) := by decide +kernel
theorem d_D_placeFor_22 : decode b_D_placeFor 22 = .ok (.invokevirtual 54, 3) := by decide +kernel
theorem d_D_placeFor_25 : decode b_D_placeFor 25 = .ok (.ifCond .eq 6, 3) := by decide +kernel
theorem d_D_placeFor_28 : decode b_D_placeFor 28 = .ok (.iinc 2 1, 3) := by decide +kernel
theorem d_D_placeFor_31 : decode b_D_placeFor 31 = .ok (.iinc 3 1, 3) := by decide +kernel
theorem d_D_placeFor_34 : decode b_D_placeFor 34 = .ok (.goto (-30), 3) := by decide +kernel
theorem d_D_placeFor_37 : decode b_D_placeFor 37 = .ok (.iload_n 2, 1) := by decide +kernel
theorem d_D_placeFor_38 : decode b_D_placeFor 38 = .ok (.ireturn, 1) := by decide +kernel
theorem d_R_init_0 : decode b_R_init 0 = .ok (.aload_n 0, 1) := by decide +kernel
theorem d_R_init_1 : decode b_R_init 1 = .ok (.invokespecial 3, 3) := by decide +kernel
theorem d_R_init_4 : decode b_R_init 4 = .ok (.aload_n 0, 1) := by decide +kernel
theorem d_R_init_5 : decode b_R_init 5 = .ok (.bipush 11, 2) := by decide +kernel
theorem d_R_init_7 : decode b_R_init 7 = .ok (.bipush 11, 2) := by decide +kernel
theorem d_R_init_9 : decode b_R_init 9 = .ok (.multianewarray 9 2, 4) := by decide +kernel
theorem d_R_init_13 : decode b_R_init 13 = .ok (.putfield 11, 3) := by decide +kernel
theorem d_R_init_16 : decode b_R_init 16 = .ok (.return_, 1) := by decide +kernel
theorem d_R_listsOf_0 : decode b_R_listsOf 0 = .ok (.iconst 0, 1) := by decide +kernel
theorem d_R_listsOf_1 : decode b_R_listsOf 1 = .ok (.istore_n 3, 1) := by decide +kernel
theorem d_R_listsOf_2 : decode b_R_listsOf 2 = .ok (.iload_n 3, 1) := by decide +kernel
theorem d_R_listsOf_3 : decode b_R_listsOf 3 = .ok (.aload_n 1, 1) := by decide +kernel
theorem d_R_listsOf_4 : decode b_R_listsOf 4 = .ok (.getfield 16, 3) := by decide +kernel
theorem d_R_listsOf_7 : decode b_R_listsOf 7 = .ok (.if_icmp .gt 58, 3) := by decide +kernel
theorem d_R_listsOf_10 : decode b_R_listsOf 10 = .ok (.aload_n 0, 1) := by decide +kernel
theorem d_R_listsOf_11 : decode b_R_listsOf 11 = .ok (.getfield 11, 3) := by decide +kernel
theorem d_R_listsOf_14 : decode b_R_listsOf 14 = .ok (.iload_n 3, 1) := by decide +kernel
theorem d_R_listsOf_15 : decode b_R_listsOf 15 = .ok (.aaload, 1) := by decide +kernel
theorem d_R_listsOf_16 : decode b_R_listsOf 16 = .ok (.iconst 0, 1) := by decide +kernel
theorem d_R_listsOf_17 : decode b_R_listsOf 17 = .ok (.iconst 1, 1) := by decide +kernel
theorem d_R_listsOf_18 : decode b_R_listsOf 18 = .ok (.iastore, 1) := by decide +kernel
theorem d_R_listsOf_19 : decode b_R_listsOf 19 = .ok (.iconst 1, 1) := by decide +kernel
theorem d_R_listsOf_20 : decode b_R_listsOf 20 = .ok (.istore 4, 2) := by decide +kernel
theorem d_R_listsOf_22 : decode b_R_listsOf 22 = .ok (.iload 4, 2) := by decide +kernel
theorem d_R_listsOf_24 : decode b_R_listsOf 24 = .ok (.iload_n 2, 1) := by decide +kernel
theorem d_R_listsOf_25 : decode b_R_listsOf 25 = .ok (.if_icmp .gt 34, 3) := by decide +kernel
theorem d_R_listsOf_28 : decode b_R_listsOf 28 = .ok (.aload_n 0, 1) := by decide +kernel
theorem d_R_listsOf_29 : decode b_R_listsOf 29 = .ok (.getfield 11, 3) := by decide +kernel
theorem d_R_listsOf_32 : decode b_R_listsOf 32 = .ok (.iload_n 3, 1) := by decide +kernel
theorem d_R_listsOf_33 : decode b_R_listsOf 33 = .ok (.aaload, 1) := by decide +kernel
theorem d_R_listsOf_34 : decode b_R_listsOf 34 = .ok (.iload 4, 2) := by decide +kernel
theorem d_R_listsOf_36 : decode b_R_listsOf 36 = .ok (.iload_n 3, 1) := by decide +kernel
theorem d_R_listsOf_37 : decode b_R_listsOf 37 = .ok (.ifCond .ne 7, 3) := by decide +kernel
theorem d_R_listsOf_40 : decode b_R_listsOf 40 = .ok (.iconst 0, 1) := by decide +kernel
theorem d_R_listsOf_41 : decode b_R_listsOf 41 = .ok (.goto 11, 3) := by decide +kernel
theorem d_R_listsOf_44 : decode b_R_listsOf 44 = .ok (.aload_n 0, 1) := by decide +kernel
theorem d_R_listsOf_45 : decode b_R_listsOf 45 = .ok (.aload_n 1, 1) := by decide +kernel
theorem d_R_listsOf_46 : decode b_R_listsOf 46 = .ok (.iload_n 3, 1) := by decide +kernel
theorem d_R_listsOf_47 : decode b_R_listsOf 47 = .ok (.iload 4, 2) := by decide +kernel
theorem d_R_listsOf_49 : decode b_R_listsOf 49 = .ok (.invokevirtual 22, 3) := by decide +kernel
theorem d_R_listsOf_52 : decode b_R_listsOf 52 = .ok (.iastore, 1) := by decide +kernel
theorem d_R_listsOf_53 : decode b_R_listsOf 53 = .ok (.iinc 4 1, 3) := by decide +kernel
theorem d_R_listsOf_56 : decode b_R_listsOf 56 = .ok (.goto (-34), 3) := by decide +kernel
theorem d_R_listsOf_59 : decode b_R_listsOf 59 = .ok (.iinc 3 1, 3) := by decide +kernel
theorem d_R_listsOf_62 : decode b_R_listsOf 62 = .ok (.goto (-60), 3) := by decide +kernel
theorem d_R_listsOf_65 : decode b_R_listsOf 65 = .ok (.aload_n 0, 1) := by decide +kernel
theorem d_R_listsOf_66 : decode b_R_listsOf 66 = .ok (.getfield 11, 3) := by decide +kernel
theorem d_R_listsOf_69 : decode b_R_listsOf 69 = .ok (.aload_n 1, 1) := by decide +kernel
theorem d_R_listsOf_70 : decode b_R_listsOf 70 = .ok (.getfield 16, 3) := by decide +kernel
theorem d_R_listsOf_73 : decode b_R_listsOf 73 = .ok (.aaload, 1) := by decide +kernel
theorem d_R_listsOf_74 : decode b_R_listsOf 74 = .ok (.iload_n 2, 1) := by decide +kernel
theorem d_R_listsOf_75 : decode b_R_listsOf 75 = .ok (.iaload, 1) := by decide +kernel
theorem d_R_listsOf_76 : decode b_R_listsOf 76 = .ok (.ireturn, 1) := by decide +kernel
theorem d_R_listsWithin_0 : decode b_R_listsWithin 0 = .ok (.iload_n 2, 1) := by decide +kernel
theorem d_R_listsWithin_1 : decode b_R_listsWithin 1 = .ok (.iconst 1, 1) := by decide +kernel
theorem d_R_listsWithin_2 : decode b_R_listsWithin 2 = .ok (.isub, 1) := by decide +kernel
theorem d_R_listsWithin_3 : decode b_R_listsWithin 3 = .ok (.istore 4, 2) := by decide +kernel
theorem d_R_listsWithin_5 : decode b_R_listsWithin 5 = .ok (.aload_n 0, 1) := by decide +kernel
theorem d_R_listsWithin_6 : decode b_R_listsWithin 6 = .ok (.getfield 11, 3) := by decide +kernel
theorem d_R_listsWithin_9 : decode b_R_listsWithin 9 = .ok (.iload 4, 2) := by decide +kernel
theorem d_R_listsWithin_11 : decode b_R_listsWithin 11 = .ok (.aaload, 1) := by decide +kernel
theorem d_R_listsWithin_12 : decode b_R_listsWithin 12 = .ok (.iload_n 3, 1) := by decide +kernel
theorem d_R_listsWithin_13 : decode b_R_listsWithin 13 = .ok (.iaload, 1) := by decide +kernel
theorem d_R_listsWithin_14 : decode b_R_listsWithin 14 = .ok (.aload_n 0, 1) := by decide +kernel
theorem d_R_listsWithin_15 : decode b_R_listsWithin 15 = .ok (.getfield 11, 3) := by decide +kernel
theorem d_R_listsWithin_18 : decode b_R_listsWithin 18 = .ok (.iload 4, 2) := by decide +kernel
theorem d_R_listsWithin_20 : decode b_R_listsWithin 20 = .ok (.aaload, 1) := by decide +kernel
theorem d_R_listsWithin_21 : decode b_R_listsWithin 21 = .ok (.iload_n 3, 1) := by decide +kernel
theorem d_R_listsWithin_22 : decode b_R_listsWithin 22 = .ok (.iconst 1, 1) := by decide +kernel
theorem d_R_listsWithin_23 : decode b_R_listsWithin 23 = .ok (.isub, 1) := by decide +kernel
theorem d_R_listsWithin_24 : decode b_R_listsWithin 24 = .ok (.iaload, 1) := by decide +kernel
theorem d_R_listsWithin_25 : decode b_R_listsWithin 25 = .ok (.iadd, 1) := by decide +kernel
theorem d_R_listsWithin_26 : decode b_R_listsWithin 26 = .ok (.istore 5, 2) := by decide +kernel
theorem d_R_listsWithin_28 : decode b_R_listsWithin 28 = .ok (.aload_n 0, 1) := by decide +kernel
theorem d_R_listsWithin_29 : decode b_R_listsWithin 29 = .ok (.aload_n 1, 1) := by decide +kernel
theorem d_R_listsWithin_30 : decode b_R_listsWithin 30 = .ok (.iload 4, 2) := by decide +kernel
theorem d_R_listsWithin_32 : decode b_R_listsWithin 32 = .ok (.invokevirtual 26, 3) := by decide +kernel
theorem d_R_listsWithin_35 : decode b_R_listsWithin 35 = .ok (.istore 6, 2) := by decide +kernel
theorem d_R_listsWithin_37 : decode b_R_listsWithin 37 = .ok (.iload 6, 2) := by decide +kernel
theorem d_R_listsWithin_39 : decode b_R_listsWithin 39 = .ok (.iconst (-1), 1) := by decide +kernel
theorem d_R_listsWithin_40 : decode b_R_listsWithin 40 = .ok (.if_icmp .ne 8, 3) := by decide +kernel
theorem d_R_listsWithin_43 : decode b_R_listsWithin 43 = .ok (.iload 5, 2) := by decide +kernel
theorem d_R_listsWithin_45 : decode b_R_listsWithin 45 = .ok (.goto 17, 3) := by decide +kernel
theorem d_R_listsWithin_48 : decode b_R_listsWithin 48 = .ok (.iload 5, 2) := by decide +kernel
theorem d_R_listsWithin_50 : decode b_R_listsWithin 50 = .ok (.aload_n 0, 1) := by decide +kernel
theorem d_R_listsWithin_51 : decode b_R_listsWithin 51 = .ok (.getfield 11, 3) := by decide +kernel
theorem d_R_listsWithin_54 : decode b_R_listsWithin 54 = .ok (.iload 6, 2) := by decide +kernel
theorem d_R_listsWithin_56 : decode b_R_listsWithin 56 = .ok (.aaload, 1) := by decide +kernel
theorem d_R_listsWithin_57 : decode b_R_listsWithin 57 = .ok (.iload_n 3, 1) := by decide +kernel
theorem d_R_listsWithin_58 : decode b_R_listsWithin 58 = .ok (.iconst 1, 1) := by decide +kernel
theorem d_R_listsWithin_59 : decode b_R_listsWithin 59 = .ok (.isub, 1) := by decide +kernel
theorem d_R_listsWithin_60 : decode b_R_listsWithin 60 = .ok (.iaload, 1) := by decide +kernel
theorem d_R_listsWithin_61 : decode b_R_listsWithin 61 = .ok (.isub, 1) := by decide +kernel
theorem d_R_listsWithin_62 : decode b_R_listsWithin 62 = .ok (.ireturn, 1) := by decide +kernel
theorem d_R_placeBefore_0 : decode b_R_placeBefore 0 = .ok (.iload_n 2, 1) := by decide +kernel
theorem d_R_placeBefore_1 : decode b_R_placeBefore 1 = .ok (.iconst 1, 1) := by decide +kernel
theorem d_R_placeBefore_2 : decode b_R_placeBefore 2 = .ok (.isub, 1) := by decide +kernel
theorem d_R_placeBefore_3 : decode b_R_placeBefore 3 = .ok (.istore_n 3, 1) := by decide +kernel
theorem d_R_placeBefore_4 : decode b_R_placeBefore 4 = .ok (.iload_n 3, 1) := by decide +kernel
theorem d_R_placeBefore_5 : decode b_R_placeBefore 5 = .ok (.ifCond .lt 24, 3) := by decide +kernel
theorem d_R_placeBefore_8 : decode b_R_placeBefore 8 = .ok (.aload_n 1, 1) := by decide +kernel
theorem d_R_placeBefore_9 : decode b_R_placeBefore 9 = .ok (.iload_n 3, 1) := by decide +kernel
theorem d_R_placeBefore_10 : decode b_R_placeBefore 10 = .ok (.invokevirtual 30, 3) := by decide +kernel
theorem d_R_placeBefore_13 : decode b_R_placeBefore 13 = .ok (.aload_n 1, 1) := by decide +kernel
theorem d_R_placeBefore_14 : decode b_R_placeBefore 14 = .ok (.iload_n 2, 1) := by decide +kernel
theorem d_R_placeBefore_15 : decode b_R_placeBefore 15 = .ok (.invokevirtual 30, 3) := by decide +kernel
theorem d_R_placeBefore_18 : decode b_R_placeBefore 18 = .ok (.if_icmp .ne 5, 3) := by decide +kernel
theorem d_R_placeBefore_21 : decode b_R_placeBefore 21 = .ok (.iload_n 3, 1) := by decide +kernel
theorem d_R_placeBefore_22 : decode b_R_placeBefore 22 = .ok (.ireturn, 1) := by decide +kernel
theorem d_R_placeBefore_23 : decode b_R_placeBefore 23 = .ok (.iinc 3 (-1), 3) := by decide +kernel
theorem d_R_placeBefore_26 : decode b_R_placeBefore 26 = .ok (.goto (-22), 3) := by decide +kernel
theorem d_R_placeBefore_29 : decode b_R_placeBefore 29 = .ok (.iconst (-1), 1) := by decide +kernel
theorem d_R_placeBefore_30 : decode b_R_placeBefore 30 = .ok (.ireturn, 1) := by decide +kernel
theorem d_E_init_0 : decode b_E_init 0 = .ok (.aload_n 0, 1) := by decide +kernel
theorem d_E_init_1 : decode b_E_init 1 = .ok (.invokespecial 3, 3) := by decide +kernel
theorem d_E_init_4 : decode b_E_init 4 = .ok (.aload_n 0, 1) := by decide +kernel
theorem d_E_init_5 : decode b_E_init 5 = .ok (.bipush 11, 2) := by decide +kernel
theorem d_E_init_7 : decode b_E_init 7 = .ok (.bipush 9, 2) := by decide +kernel
theorem d_E_init_9 : decode b_E_init 9 = .ok (.multianewarray 9 2, 4) := by decide +kernel
theorem d_E_init_13 : decode b_E_init 13 = .ok (.putfield 11, 3) := by decide +kernel
theorem d_E_init_16 : decode b_E_init 16 = .ok (.return_, 1) := by decide +kernel
theorem d_E_measure_0 : decode b_E_measure 0 = .ok (.aload_n 1, 1) := by decide +kernel
theorem d_E_measure_1 : decode b_E_measure 1 = .ok (.getfield 16, 3) := by decide +kernel
theorem d_E_measure_4 : decode b_E_measure 4 = .ok (.istore_n 3, 1) := by decide +kernel
theorem d_E_measure_5 : decode b_E_measure 5 = .ok (.iload_n 3, 1) := by decide +kernel
theorem d_E_measure_6 : decode b_E_measure 6 = .ok (.ifCond .lt 44, 3) := by decide +kernel
theorem d_E_measure_9 : decode b_E_measure 9 = .ok (.aload_n 2, 1) := by decide +kernel
theorem d_E_measure_10 : decode b_E_measure 10 = .ok (.getfield 16, 3) := by decide +kernel
theorem d_E_measure_13 : decode b_E_measure 13 = .ok (.istore 4, 2) := by decide +kernel
theorem d_E_measure_15 : decode b_E_measure 15 = .ok (.iload 4, 2) := by decide +kernel
theorem d_E_measure_17 : decode b_E_measure 17 = .ok (.ifCond .lt 27, 3) := by decide +kernel
theorem d_E_measure_20 : decode b_E_measure 20 = .ok (.aload_n 0, 1) := by decide +kernel
theorem d_E_measure_21 : decode b_E_measure 21 = .ok (.getfield 11, 3) := by decide +kernel
theorem d_E_measure_24 : decode b_E_measure 24 = .ok (.iload_n 3, 1) := by decide +kernel
theorem d_E_measure_25 : decode b_E_measure 25 = .ok (.aaload, 1) := by decide +kernel
theorem d_E_measure_26 : decode b_E_measure 26 = .ok (.iload 4, 2) := by decide +kernel
theorem d_E_measure_28 : decode b_E_measure 28 = .ok (.aload_n 0, 1) := by decide +kernel
theorem d_E_measure_29 : decode b_E_measure 29 = .ok (.aload_n 1, 1) := by decide +kernel
theorem d_E_measure_30 : decode b_E_measure 30 = .ok (.iload_n 3, 1) := by decide +kernel
theorem d_E_measure_31 : decode b_E_measure 31 = .ok (.aload_n 2, 1) := by decide +kernel
theorem d_E_measure_32 : decode b_E_measure 32 = .ok (.iload 4, 2) := by decide +kernel
theorem d_E_measure_34 : decode b_E_measure 34 = .ok (.invokevirtual 22, 3) := by decide +kernel
theorem d_E_measure_37 : decode b_E_measure 37 = .ok (.iastore, 1) := by decide +kernel
theorem d_E_measure_38 : decode b_E_measure 38 = .ok (.iinc 4 (-1), 3) := by decide +kernel
theorem d_E_measure_41 : decode b_E_measure 41 = .ok (.goto (-26), 3) := by decide +kernel
theorem d_E_measure_44 : decode b_E_measure 44 = .ok (.iinc 3 (-1), 3) := by decide +kernel
theorem d_E_measure_47 : decode b_E_measure 47 = .ok (.goto (-42), 3) := by decide +kernel
theorem d_E_measure_50 : decode b_E_measure 50 = .ok (.aload_n 0, 1) := by decide +kernel
theorem d_E_measure_51 : decode b_E_measure 51 = .ok (.getfield 11, 3) := by decide +kernel
theorem d_E_measure_54 : decode b_E_measure 54 = .ok (.iconst 0, 1) := by decide +kernel
theorem d_E_measure_55 : decode b_E_measure 55 = .ok (.aaload, 1) := by decide +kernel
theorem d_E_measure_56 : decode b_E_measure 56 = .ok (.iconst 0, 1) := by decide +kernel
theorem d_E_measure_57 : decode b_E_measure 57 = .ok (.iaload, 1) := by decide +kernel
theorem d_E_measure_58 : decode b_E_measure 58 = .ok (.ireturn, 1) := by decide +kernel
theorem d_E_editAt_0 : decode b_E_editAt 0 = .ok (.aload_n 0, 1) := by decide +kernel
theorem d_E_editAt_1 : decode b_E_editAt 1 = .ok (.aload_n 1, 1) := by decide +kernel
theorem d_E_editAt_2 : decode b_E_editAt 2 = .ok (.aload_n 2, 1) := by decide +kernel
theorem d_E_editAt_3 : decode b_E_editAt 3 = .ok (.invokevirtual 26, 3) := by decide +kernel
theorem d_E_editAt_6 : decode b_E_editAt 6 = .ok (.pop, 1) := by decide +kernel
theorem d_E_editAt_7 : decode b_E_editAt 7 = .ok (.iconst 0, 1) := by decide +kernel
theorem d_E_editAt_8 : decode b_E_editAt 8 = .ok (.istore 4, 2) := by decide +kernel
theorem d_E_editAt_10 : decode b_E_editAt 10 = .ok (.iconst 0, 1) := by decide +kernel
theorem d_E_editAt_11 : decode b_E_editAt 11 = .ok (.istore 5, 2) := by decide +kernel
theorem d_E_editAt_13 : decode b_E_editAt 13 = .ok (.iconst 0, 1) := by decide +kernel
theorem d_E_editAt_14 : decode b_E_editAt 14 = .ok (.istore 6, 2) := by decide +kernel
theorem d_E_editAt_16 : decode b_E_editAt 16 = .ok (.iload 6, 2) := by decide +kernel
theorem d_E_editAt_18 : decode b_E_editAt 18 = .ok (.bipush 18, 2) := by decide +kernel
theorem d_E_editAt_20 : decode b_E_editAt 20 = .ok (.if_icmp .ge 84, 3) := by decide +kernel
theorem d_E_editAt_23 : decode b_E_editAt 23 = .ok (.iload 4, 2) := by decide +kernel
theorem d_E_editAt_25 : decode b_E_editAt 25 = .ok (.aload_n 1, 1) := by decide +kernel
theorem d_E_editAt_26 : decode b_E_editAt 26 = .ok (.getfield 16, 3) := by decide +kernel
theorem d_E_editAt_29 : decode b_E_editAt 29 = .ok (.if_icmp .ne 14, 3) := by decide +kernel
theorem d_E_editAt_32 : decode b_E_editAt 32 = .ok (.iload 5, 2) := by decide +kernel
theorem d_E_editAt_34 : decode b_E_editAt 34 = .ok (.aload_n 2, 1) := by decide +kernel
theorem d_E_editAt_35 : decode b_E_editAt 35 = .ok (.getfield 16, 3) := by decide +kernel
theorem d_E_editAt_38 : decode b_E_editAt 38 = .ok (.if_icmp .ne 5, 3) := by decide +kernel
theorem d_E_editAt_41 : decode b_E_editAt 41 = .ok (.iconst (-1), 1) := by decide +kernel
theorem d_E_editAt_42 : decode b_E_editAt 42 = .ok (.ireturn, 1) := by decide +kernel
theorem d_E_editAt_43 : decode b_E_editAt 43 = .ok (.aload_n 0, 1) := by decide +kernel
theorem d_E_editAt_44 : decode b_E_editAt 44 = .ok (.aload_n 1, 1) := by decide +kernel
theorem d_E_editAt_45 : decode b_E_editAt 45 = .ok (.iload 4, 2) := by decide +kernel
theorem d_E_editAt_47 : decode b_E_editAt 47 = .ok (.aload_n 2, 1) := by decide +kernel
theorem d_E_editAt_48 : decode b_E_editAt 48 = .ok (.iload 5, 2) := by decide +kernel
theorem d_E_editAt_50 : decode b_E_editAt 50 = .ok (.invokevirtual 30, 3) := by decide +kernel
theorem d_E_editAt_53 : decode b_E_editAt 53 = .ok (.istore 7, 2) := by decide +kernel
theorem d_E_editAt_55 : decode b_E_editAt 55 = .ok (.iload 6, 2) := by decide +kernel
theorem d_E_editAt_57 : decode b_E_editAt 57 = .ok (.iload_n 3, 1) := by decide +kernel
theorem d_E_editAt_58 : decode b_E_editAt 58 = .ok (.if_icmp .ne 6, 3) := by decide +kernel
theorem d_E_editAt_61 : decode b_E_editAt 61 = .ok (.iload 7, 2) := by decide +kernel
theorem d_E_editAt_63 : decode b_E_editAt 63 = .ok (.ireturn, 1) := by decide +kernel
theorem d_E_editAt_64 : decode b_E_editAt 64 = .ok (.iload 7, 2) := by decide +kernel
theorem d_E_editAt_66 : decode b_E_editAt 66 = .ok (.iconst 3, 1) := by decide +kernel
theorem d_E_editAt_67 : decode b_E_editAt 67 = .ok (.if_icmp .ne 8, 3) := by decide +kernel
theorem d_E_editAt_70 : decode b_E_editAt 70 = .ok (.iload 4, 2) := by decide +kernel
theorem d_E_editAt_72 : decode b_E_editAt 72 = .ok (.goto 7, 3) := by decide +kernel
theorem d_E_editAt_75 : decode b_E_editAt 75 = .ok (.iload 4, 2) := by decide +kernel
theorem d_E_editAt_77 : decode b_E_editAt 77 = .ok (.iconst 1, 1) := by decide +kernel
theorem d_E_editAt_78 : decode b_E_editAt 78 = .ok (.iadd, 1) := by decide +kernel
theorem d_E_editAt_79 : decode b_E_editAt 79 = .ok (.istore 4, 2) := by decide +kernel
theorem d_E_editAt_81 : decode b_E_editAt 81 = .ok (.iload 7, 2) := by decide +kernel
theorem d_E_editAt_83 : decode b_E_editAt 83 = .ok (.iconst 2, 1) := by decide +kernel
theorem d_E_editAt_84 : decode b_E_editAt 84 = .ok (.if_icmp .ne 8, 3) := by decide +kernel
theorem d_E_editAt_87 : decode b_E_editAt 87 = .ok (.iload 5, 2) := by decide +kernel
theorem d_E_editAt_89 : decode b_E_editAt 89 = .ok (.goto 7, 3) := by decide +kernel
theorem d_E_editAt_92 : decode b_E_editAt 92 = .ok (.iload 5, 2) := by decide +kernel
theorem d_E_editAt_94 : decode b_E_editAt 94 = .ok (.iconst 1, 1) := by decide +kernel
theorem d_E_editAt_95 : decode b_E_editAt 95 = .ok (.iadd, 1) := by decide +kernel
theorem d_E_editAt_96 : decode b_E_editAt 96 = .ok (.istore 5, 2) := by decide +kernel
theorem d_E_editAt_98 : decode b_E_editAt 98 = .ok (.iinc 6 1, 3) := by decide +kernel
theorem d_E_editAt_101 : decode b_E_editAt 101 = .ok (.goto (-85), 3) := by decide +kernel
theorem d_E_editAt_104 : decode b_E_editAt 104 = .ok (.iconst (-1), 1) := by decide +kernel
theorem d_E_editAt_105 : decode b_E_editAt 105 = .ok (.ireturn, 1) := by decide +kernel
theorem d_E_leastCost_0 : decode b_E_leastCost 0 = .ok (.iload_n 2, 1) := by decide +kernel
theorem d_E_leastCost_1 : decode b_E_leastCost 1 = .ok (.aload_n 1, 1) := by decide +kernel
theorem d_E_leastCost_2 : decode b_E_leastCost 2 = .ok (.getfield 16, 3) := by decide +kernel
theorem d_E_leastCost_5 : decode b_E_leastCost 5 = .ok (.if_icmp .ne 11, 3) := by decide +kernel
theorem d_E_leastCost_8 : decode b_E_leastCost 8 = .ok (.aload_n 3, 1) := by decide +kernel
theorem d_E_leastCost_9 : decode b_E_leastCost 9 = .ok (.getfield 16, 3) := by decide +kernel
theorem d_E_leastCost_12 : decode b_E_leastCost 12 = .ok (.iload 4, 2) := by decide +kernel
theorem d_E_leastCost_14 : decode b_E_leastCost 14 = .ok (.isub, 1) := by decide +kernel
theorem d_E_leastCost_15 : decode b_E_leastCost 15 = .ok (.ireturn, 1) := by decide +kernel
theorem d_E_leastCost_16 : decode b_E_leastCost 16 = .ok (.iload 4, 2) := by decide +kernel
theorem d_E_leastCost_18 : decode b_E_leastCost 18 = .ok (.aload_n 3, 1) := by decide +kernel
theorem d_E_leastCost_19 : decode b_E_leastCost 19 = .ok (.getfield 16, 3) := by decide +kernel
theorem d_E_leastCost_22 : decode b_E_leastCost 22 = .ok (.if_icmp .ne 10, 3) := by decide +kernel
theorem d_E_leastCost_25 : decode b_E_leastCost 25 = .ok (.aload_n 1, 1) := by decide +kernel
theorem d_E_leastCost_26 : decode b_E_leastCost 26 = .ok (.getfield 16, 3) := by decide +kernel
theorem d_E_leastCost_29 : decode b_E_leastCost 29 = .ok (.iload_n 2, 1) := by decide +kernel
theorem d_E_leastCost_30 : decode b_E_leastCost 30 = .ok (.isub, 1) := by decide +kernel
theorem d_E_leastCost_31 : decode b_E_leastCost 31 = .ok (.ireturn, 1) := by decide +kernel
theorem d_E_leastCost_32 : decode b_E_leastCost 32 = .ok (.aload_n 0, 1) := by decide +kernel
theorem d_E_leastCost_33 : decode b_E_leastCost 33 = .ok (.getfield 11, 3) := by decide +kernel
theorem d_E_leastCost_36 : decode b_E_leastCost 36 = .ok (.iload_n 2, 1) := by decide +kernel
theorem d_E_leastCost_37 : decode b_E_leastCost 37 = .ok (.iconst 1, 1) := by decide +kernel
theorem d_E_leastCost_38 : decode b_E_leastCost 38 = .ok (.iadd, 1) := by decide +kernel
theorem d_E_leastCost_39 : decode b_E_leastCost 39 = .ok (.aaload, 1) := by decide +kernel
theorem d_E_leastCost_40 : decode b_E_leastCost 40 = .ok (.iload 4, 2) := by decide +kernel
theorem d_E_leastCost_42 : decode b_E_leastCost 42 = .ok (.iconst 1, 1) := by decide +kernel
theorem d_E_leastCost_43 : decode b_E_leastCost 43 = .ok (.iadd, 1) := by decide +kernel
theorem d_E_leastCost_44 : decode b_E_leastCost 44 = .ok (.iaload, 1) := by decide +kernel
theorem d_E_leastCost_45 : decode b_E_leastCost 45 = .ok (.aload_n 1, 1) := by decide +kernel
theorem d_E_leastCost_46 : decode b_E_leastCost 46 = .ok (.iload_n 2, 1) := by decide +kernel
theorem d_E_leastCost_47 : decode b_E_leastCost 47 = .ok (.invokevirtual 33, 3) := by decide +kernel
theorem d_E_leastCost_50 : decode b_E_leastCost 50 = .ok (.aload_n 3, 1) := by decide +kernel
theorem d_E_leastCost_51 : decode b_E_leastCost 51 = .ok (.iload 4, 2) := by decide +kernel
theorem d_E_leastCost_53 : decode b_E_leastCost 53 = .ok (.invokevirtual 33, 3) := by decide +kernel
theorem d_E_leastCost_56 : decode b_E_leastCost 56 = .ok (.if_icmp .ne 7, 3) := by decide +kernel
theorem d_E_leastCost_59 : decode b_E_leastCost 59 = .ok (.iconst 0, 1) := by decide +kernel
theorem d_E_leastCost_60 : decode b_E_leastCost 60 = .ok (.goto 4, 3) := by decide +kernel
theorem d_E_leastCost_63 : decode b_E_leastCost 63 = .ok (.iconst 1, 1) := by decide +kernel
theorem d_E_leastCost_64 : decode b_E_leastCost 64 = .ok (.iadd, 1) := by decide +kernel
theorem d_E_leastCost_65 : decode b_E_leastCost 65 = .ok (.istore 5, 2) := by decide +kernel
theorem d_E_leastCost_67 : decode b_E_leastCost 67 = .ok (.iconst 1, 1) := by decide +kernel
theorem d_E_leastCost_68 : decode b_E_leastCost 68 = .ok (.aload_n 0, 1) := by decide +kernel
theorem d_E_leastCost_69 : decode b_E_leastCost 69 = .ok (.getfield 11, 3) := by decide +kernel
theorem d_E_leastCost_72 : decode b_E_leastCost 72 = .ok (.iload_n 2, 1) := by decide +kernel
theorem d_E_leastCost_73 : decode b_E_leastCost 73 = .ok (.iconst 1, 1) := by decide +kernel
theorem d_E_leastCost_74 : decode b_E_leastCost 74 = .ok (.iadd, 1) := by decide +kernel
theorem d_E_leastCost_75 : decode b_E_leastCost 75 = .ok (.aaload, 1) := by decide +kernel
theorem d_E_leastCost_76 : decode b_E_leastCost 76 = .ok (.iload 4, 2) := by decide +kernel
theorem d_E_leastCost_78 : decode b_E_leastCost 78 = .ok (.iaload, 1) := by decide +kernel
theorem d_E_leastCost_79 : decode b_E_leastCost 79 = .ok (.aload_n 0, 1) := by decide +kernel
theorem d_E_leastCost_80 : decode b_E_leastCost 80 = .ok (.getfield 11, 3) := by decide +kernel
theorem d_E_leastCost_83 : decode b_E_leastCost 83 = .ok (.iload_n 2, 1) := by decide +kernel
theorem d_E_leastCost_84 : decode b_E_leastCost 84 = .ok (.aaload, 1) := by decide +kernel
theorem d_E_leastCost_85 : decode b_E_leastCost 85 = .ok (.iload 4, 2) := by decide +kernel
theorem d_E_leastCost_87 : decode b_E_leastCost 87 = .ok (.iconst 1, 1) := by decide +kernel
theorem d_E_leastCost_88 : decode b_E_leastCost 88 = .ok (.iadd, 1) := by decide +kernel
theorem d_E_leastCost_89 : decode b_E_leastCost 89 = .ok (.iaload, 1) := by decide +kernel
theorem d_E_leastCost_90 : decode b_E_leastCost 90 = .ok (.invokestatic 37, 3) := by decide +kernel
theorem d_E_leastCost_93 : decode b_E_leastCost 93 = .ok (.iadd, 1) := by decide +kernel
theorem d_E_leastCost_94 : decode b_E_leastCost 94 = .ok (.istore 6, 2) := by decide +kernel
theorem d_E_leastCost_96 : decode b_E_leastCost 96 = .ok (.iload 5, 2) := by decide +kernel
theorem d_E_leastCost_98 : decode b_E_leastCost 98 = .ok (.iload 6, 2) := by decide +kernel
theorem d_E_leastCost_100 : decode b_E_leastCost 100 = .ok (.invokestatic 37, 3) := by decide +kernel
theorem d_E_leastCost_103 : decode b_E_leastCost 103 = .ok (.ireturn, 1) := by decide +kernel
theorem d_E_firstEdit_0 : decode b_E_firstEdit 0 = .ok (.iload_n 2, 1) := by decide +kernel
theorem d_E_firstEdit_1 : decode b_E_firstEdit 1 = .ok (.aload_n 1, 1) := by decide +kernel
theorem d_E_firstEdit_2 : decode b_E_firstEdit 2 = .ok (.getfield 16, 3) := by decide +kernel
theorem d_E_firstEdit_5 : decode b_E_firstEdit 5 = .ok (.if_icmp .ne 5, 3) := by decide +kernel
theorem d_E_firstEdit_8 : decode b_E_firstEdit 8 = .ok (.iconst 3, 1) := by decide +kernel
theorem d_E_firstEdit_9 : decode b_E_firstEdit 9 = .ok (.ireturn, 1) := by decide +kernel
theorem d_E_firstEdit_10 : decode b_E_firstEdit 10 = .ok (.iload 4, 2) := by decide +kernel
theorem d_E_firstEdit_12 : decode b_E_firstEdit 12 = .ok (.aload_n 3, 1) := by decide +kernel
theorem d_E_firstEdit_13 : decode b_E_firstEdit 13 = .ok (.getfield 16, 3) := by decide +kernel
theorem d_E_firstEdit_16 : decode b_E_firstEdit 16 = .ok (.if_icmp .ne 5, 3) := by decide +kernel
theorem d_E_firstEdit_19 : decode b_E_firstEdit 19 = .ok (.iconst 2, 1) := by decide +kernel
theorem d_E_firstEdit_20 : decode b_E_firstEdit 20 = .ok (.ireturn, 1) := by decide +kernel
theorem d_E_firstEdit_21 : decode b_E_firstEdit 21 = .ok (.aload_n 1, 1) := by decide +kernel
theorem d_E_firstEdit_22 : decode b_E_firstEdit 22 = .ok (.iload_n 2, 1) := by decide +kernel
theorem d_E_firstEdit_23 : decode b_E_firstEdit 23 = .ok (.invokevirtual 33, 3) := by decide +kernel
theorem d_E_firstEdit_26 : decode b_E_firstEdit 26 = .ok (.aload_n 3, 1) := by decide +kernel
theorem d_E_firstEdit_27 : decode b_E_firstEdit 27 = .ok (.iload 4, 2) := by decide +kernel
theorem d_E_firstEdit_29 : decode b_E_firstEdit 29 = .ok (.invokevirtual 33, 3) := by decide +kernel
theorem d_E_firstEdit_32 : decode b_E_firstEdit 32 = .ok (.if_icmp .ne 7, 3) := by decide +kernel
theorem d_E_firstEdit_35 : decode b_E_firstEdit 35 = .ok (.iconst 1, 1) := by decide +kernel
theorem d_E_firstEdit_36 : decode b_E_firstEdit 36 = .ok (.goto 4, 3) := by decide +kernel
theorem d_E_firstEdit_39 : decode b_E_firstEdit 39 = .ok (.iconst 0, 1) := by decide +kernel
theorem d_E_firstEdit_40 : decode b_E_firstEdit 40 = .ok (.istore 5, 2) := by decide +kernel
theorem d_E_firstEdit_42 : decode b_E_firstEdit 42 = .ok (.iload 5, 2) := by decide +kernel
theorem d_E_firstEdit_44 : decode b_E_firstEdit 44 = .ok (.ifCond .eq 30, 3) := by decide +kernel
theorem d_E_firstEdit_47 : decode b_E_firstEdit 47 = .ok (.aload_n 0, 1) := by decide +kernel
theorem d_E_firstEdit_48 : decode b_E_firstEdit 48 = .ok (.getfield 11, 3) := by decide +kernel
theorem d_E_firstEdit_51 : decode b_E_firstEdit 51 = .ok (.iload_n 2, 1) := by decide +kernel
theorem d_E_firstEdit_52 : decode b_E_firstEdit 52 = .ok (.aaload, 1) := by decide +kernel
theorem d_E_firstEdit_53 : decode b_E_firstEdit 53 = .ok (.iload 4, 2) := by decide +kernel
theorem d_E_firstEdit_55 : decode b_E_firstEdit 55 = .ok (.iaload, 1) := by decide +kernel
theorem d_E_firstEdit_56 : decode b_E_firstEdit 56 = .ok (.aload_n 0, 1) := by decide +kernel
theorem d_E_firstEdit_57 : decode b_E_firstEdit 57 = .ok (.getfield 11, 3) := by decide +kernel
theorem d_E_firstEdit_60 : decode b_E_firstEdit 60 = .ok (.iload_n 2, 1) := by decide +kernel
theorem d_E_firstEdit_61 : decode b_E_firstEdit 61 = .ok (.iconst 1, 1) := by decide +kernel
theorem d_E_firstEdit_62 : decode b_E_firstEdit 62 = .ok (.iadd, 1) := by decide +kernel
theorem d_E_firstEdit_63 : decode b_E_firstEdit 63 = .ok (.aaload, 1) := by decide +kernel
theorem d_E_firstEdit_64 : decode b_E_firstEdit 64 = .ok (.iload 4, 2) := by decide +kernel
theorem d_E_firstEdit_66 : decode b_E_firstEdit 66 = .ok (.iconst 1, 1) := by decide +kernel
theorem d_E_firstEdit_67 : decode b_E_firstEdit 67 = .ok (.iadd, 1) := by decide +kernel
theorem d_E_firstEdit_68 : decode b_E_firstEdit 68 = .ok (.iaload, 1) := by decide +kernel
theorem d_E_firstEdit_69 : decode b_E_firstEdit 69 = .ok (.if_icmp .ne 5, 3) := by decide +kernel
theorem d_E_firstEdit_72 : decode b_E_firstEdit 72 = .ok (.iconst 0, 1) := by decide +kernel
theorem d_E_firstEdit_73 : decode b_E_firstEdit 73 = .ok (.ireturn, 1) := by decide +kernel
theorem d_E_firstEdit_74 : decode b_E_firstEdit 74 = .ok (.iload 5, 2) := by decide +kernel
theorem d_E_firstEdit_76 : decode b_E_firstEdit 76 = .ok (.ifCond .ne 32, 3) := by decide +kernel
theorem d_E_firstEdit_79 : decode b_E_firstEdit 79 = .ok (.aload_n 0, 1) := by decide +kernel
theorem d_E_firstEdit_80 : decode b_E_firstEdit 80 = .ok (.getfield 11, 3) := by decide +kernel
theorem d_E_firstEdit_83 : decode b_E_firstEdit 83 = .ok (.iload_n 2, 1) := by decide +kernel
theorem d_E_firstEdit_84 : decode b_E_firstEdit 84 = .ok (.aaload, 1) := by decide +kernel
theorem d_E_firstEdit_85 : decode b_E_firstEdit 85 = .ok (.iload 4, 2) := by decide +kernel
theorem d_E_firstEdit_87 : decode b_E_firstEdit 87 = .ok (.iaload, 1) := by decide +kernel
theorem d_E_firstEdit_88 : decode b_E_firstEdit 88 = .ok (.iconst 1, 1) := by decide +kernel
theorem d_E_firstEdit_89 : decode b_E_firstEdit 89 = .ok (.aload_n 0, 1) := by decide +kernel
theorem d_E_firstEdit_90 : decode b_E_firstEdit 90 = .ok (.getfield 11, 3) := by decide +kernel
theorem d_E_firstEdit_93 : decode b_E_firstEdit 93 = .ok (.iload_n 2, 1) := by decide +kernel
theorem d_E_firstEdit_94 : decode b_E_firstEdit 94 = .ok (.iconst 1, 1) := by decide +kernel
theorem d_E_firstEdit_95 : decode b_E_firstEdit 95 = .ok (.iadd, 1) := by decide +kernel
theorem d_E_firstEdit_96 : decode b_E_firstEdit 96 = .ok (.aaload, 1) := by decide +kernel
theorem d_E_firstEdit_97 : decode b_E_firstEdit 97 = .ok (.iload 4, 2) := by decide +kernel
theorem d_E_firstEdit_99 : decode b_E_firstEdit 99 = .ok (.iconst 1, 1) := by decide +kernel
theorem d_E_firstEdit_100 : decode b_E_firstEdit 100 = .ok (.iadd, 1) := by decide +kernel
theorem d_E_firstEdit_101 : decode b_E_firstEdit 101 = .ok (.iaload, 1) := by decide +kernel
theorem d_E_firstEdit_102 : decode b_E_firstEdit 102 = .ok (.iadd, 1) := by decide +kernel
theorem d_E_firstEdit_103 : decode b_E_firstEdit 103 = .ok (.if_icmp .ne 5, 3) := by decide +kernel
theorem d_E_firstEdit_106 : decode b_E_firstEdit 106 = .ok (.iconst 1, 1) := by decide +kernel
theorem d_E_firstEdit_107 : decode b_E_firstEdit 107 = .ok (.ireturn, 1) := by decide +kernel
theorem d_E_firstEdit_108 : decode b_E_firstEdit 108 = .ok (.aload_n 0, 1) := by decide +kernel
theorem d_E_firstEdit_109 : decode b_E_firstEdit 109 = .ok (.getfield 11, 3) := by decide +kernel
theorem d_E_firstEdit_112 : decode b_E_firstEdit 112 = .ok (.iload_n 2, 1) := by decide +kernel
theorem d_E_firstEdit_113 : decode b_E_firstEdit 113 = .ok (.aaload, 1) := by decide +kernel
theorem d_E_firstEdit_114 : decode b_E_firstEdit 114 = .ok (.iload 4, 2) := by decide +kernel
theorem d_E_firstEdit_116 : decode b_E_firstEdit 116 = .ok (.iaload, 1) := by decide +kernel
theorem d_E_firstEdit_117 : decode b_E_firstEdit 117 = .ok (.iconst 1, 1) := by decide +kernel
theorem d_E_firstEdit_118 : decode b_E_firstEdit 118 = .ok (.aload_n 0, 1) := by decide +kernel
theorem d_E_firstEdit_119 : decode b_E_firstEdit 119 = .ok (.getfield 11, 3) := by decide +kernel
theorem d_E_firstEdit_122 : decode b_E_firstEdit 122 = .ok (.iload_n 2, 1) := by decide +kernel
theorem d_E_firstEdit_123 : decode b_E_firstEdit 123 = .ok (.iconst 1, 1) := by decide +kernel
theorem d_E_firstEdit_124 : decode b_E_firstEdit 124 = .ok (.iadd, 1) := by decide +kernel
theorem d_E_firstEdit_125 : decode b_E_firstEdit 125 = .ok (.aaload, 1) := by decide +kernel
theorem d_E_firstEdit_126 : decode b_E_firstEdit 126 = .ok (.iload 4, 2) := by decide +kernel
theorem d_E_firstEdit_128 : decode b_E_firstEdit 128 = .ok (.iaload, 1) := by decide +kernel
theorem d_E_firstEdit_129 : decode b_E_firstEdit 129 = .ok (.iadd, 1) := by decide +kernel
theorem d_E_firstEdit_130 : decode b_E_firstEdit 130 = .ok (.if_icmp .ne 7, 3) := by decide +kernel
theorem d_E_firstEdit_133 : decode b_E_firstEdit 133 = .ok (.iconst 2, 1) := by decide +kernel
theorem d_E_firstEdit_134 : decode b_E_firstEdit 134 = .ok (.goto 4, 3) := by decide +kernel
theorem d_E_firstEdit_137 : decode b_E_firstEdit 137 = .ok (.iconst 3, 1) := by decide +kernel
theorem d_E_firstEdit_138 : decode b_E_firstEdit 138 = .ok (.ireturn, 1) := by decide +kernel
theorem d_L_init_0 : decode b_L_init 0 = .ok (.aload_n 0, 1) := by decide +kernel
theorem d_L_init_1 : decode b_L_init 1 = .ok (.invokespecial 3, 3) := by decide +kernel
theorem d_L_init_4 : decode b_L_init 4 = .ok (.aload_n 0, 1) := by decide +kernel
theorem d_L_init_5 : decode b_L_init 5 = .ok (.iload_n 1, 1) := by decide +kernel
theorem d_L_init_6 : decode b_L_init 6 = .ok (.newarray .int, 2) := by decide +kernel
theorem d_L_init_8 : decode b_L_init 8 = .ok (.putfield 9, 3) := by decide +kernel
theorem d_L_init_11 : decode b_L_init 11 = .ok (.aload_n 0, 1) := by decide +kernel
theorem d_L_init_12 : decode b_L_init 12 = .ok (.iconst 0, 1) := by decide +kernel
theorem d_L_init_13 : decode b_L_init 13 = .ok (.putfield 15, 3) := by decide +kernel
theorem d_L_init_16 : decode b_L_init 16 = .ok (.return_, 1) := by decide +kernel
theorem d_L_at_0 : decode b_L_at 0 = .ok (.iload_n 1, 1) := by decide +kernel
theorem d_L_at_1 : decode b_L_at 1 = .ok (.ifCond .lt 20, 3) := by decide +kernel
theorem d_L_at_4 : decode b_L_at 4 = .ok (.iload_n 1, 1) := by decide +kernel
theorem d_L_at_5 : decode b_L_at 5 = .ok (.aload_n 0, 1) := by decide +kernel
theorem d_L_at_6 : decode b_L_at 6 = .ok (.getfield 15, 3) := by decide +kernel
theorem d_L_at_9 : decode b_L_at 9 = .ok (.if_icmp .ge 12, 3) := by decide +kernel
theorem d_L_at_12 : decode b_L_at 12 = .ok (.aload_n 0, 1) := by decide +kernel
theorem d_L_at_13 : decode b_L_at 13 = .ok (.getfield 9, 3) := by decide +kernel
theorem d_L_at_16 : decode b_L_at 16 = .ok (.iload_n 1, 1) := by decide +kernel
theorem d_L_at_17 : decode b_L_at 17 = .ok (.iaload, 1) := by decide +kernel
theorem d_L_at_18 : decode b_L_at 18 = .ok (.goto 4, 3) := by decide +kernel
theorem d_L_at_21 : decode b_L_at 21 = .ok (.iconst (-1), 1) := by decide +kernel
theorem d_L_at_22 : decode b_L_at 22 = .ok (.ireturn, 1) := by decide +kernel
theorem d_L_append_0 : decode b_L_append 0 = .ok (.iload_n 1, 1) := by decide +kernel
theorem d_L_append_1 : decode b_L_append 1 = .ok (.ifCond .lt 21, 3) := by decide +kernel
theorem d_L_append_4 : decode b_L_append 4 = .ok (.iload_n 1, 1) := by decide +kernel
theorem d_L_append_5 : decode b_L_append 5 = .ok (.bipush 26, 2) := by decide +kernel
theorem d_L_append_7 : decode b_L_append 7 = .ok (.if_icmp .ge 15, 3) := by decide +kernel
theorem d_L_append_10 : decode b_L_append 10 = .ok (.aload_n 0, 1) := by decide +kernel
theorem d_L_append_11 : decode b_L_append 11 = .ok (.getfield 15, 3) := by decide +kernel
theorem d_L_append_14 : decode b_L_append 14 = .ok (.aload_n 0, 1) := by decide +kernel
theorem d_L_append_15 : decode b_L_append 15 = .ok (.getfield 9, 3) := by decide +kernel
theorem d_L_append_18 : decode b_L_append 18 = .ok (.arraylength, 1) := by decide +kernel
theorem d_L_append_19 : decode b_L_append 19 = .ok (.if_icmp .lt 5, 3) := by decide +kernel
theorem d_L_append_22 : decode b_L_append 22 = .ok (.iconst 0, 1) := by decide +kernel
theorem d_L_append_23 : decode b_L_append 23 = .ok (.ireturn, 1) := by decide +kernel
theorem d_L_append_24 : decode b_L_append 24 = .ok (.aload_n 0, 1) := by decide +kernel
theorem d_L_append_25 : decode b_L_append 25 = .ok (.getfield 9, 3) := by decide +kernel
theorem d_L_append_28 : decode b_L_append 28 = .ok (.aload_n 0, 1) := by decide +kernel
theorem d_L_append_29 : decode b_L_append 29 = .ok (.getfield 15, 3) := by decide +kernel
theorem d_L_append_32 : decode b_L_append 32 = .ok (.iload_n 1, 1) := by decide +kernel
theorem d_L_append_33 : decode b_L_append 33 = .ok (.iastore, 1) := by decide +kernel
theorem d_L_append_34 : decode b_L_append 34 = .ok (.aload_n 0, 1) := by decide +kernel
theorem d_L_append_35 : decode b_L_append 35 = .ok (.dup, 1) := by decide +kernel
theorem d_L_append_36 : decode b_L_append 36 = .ok (.getfield 15, 3) := by decide +kernel
theorem d_L_append_39 : decode b_L_append 39 = .ok (.iconst 1, 1) := by decide +kernel
theorem d_L_append_40 : decode b_L_append 40 = .ok (.iadd, 1) := by decide +kernel
theorem d_L_append_41 : decode b_L_append 41 = .ok (.putfield 15, 3) := by decide +kernel
theorem d_L_append_44 : decode b_L_append 44 = .ok (.iconst 1, 1) := by decide +kernel
theorem d_L_append_45 : decode b_L_append 45 = .ok (.ireturn, 1) := by decide +kernel
theorem d_L_removeLast_0 : decode b_L_removeLast 0 = .ok (.aload_n 0, 1) := by decide +kernel
theorem d_L_removeLast_1 : decode b_L_removeLast 1 = .ok (.getfield 15, 3) := by decide +kernel
theorem d_L_removeLast_4 : decode b_L_removeLast 4 = .ok (.ifCond .ne 5, 3) := by decide +kernel
theorem d_L_removeLast_7 : decode b_L_removeLast 7 = .ok (.iconst 0, 1) := by decide +kernel
theorem d_L_removeLast_8 : decode b_L_removeLast 8 = .ok (.ireturn, 1) := by decide +kernel
theorem d_L_removeLast_9 : decode b_L_removeLast 9 = .ok (.aload_n 0, 1) := by decide +kernel
theorem d_L_removeLast_10 : decode b_L_removeLast 10 = .ok (.dup, 1) := by decide +kernel
theorem d_L_removeLast_11 : decode b_L_removeLast 11 = .ok (.getfield 15, 3) := by decide +kernel
theorem d_L_removeLast_14 : decode b_L_removeLast 14 = .ok (.iconst 1, 1) := by decide +kernel
theorem d_L_removeLast_15 : decode b_L_removeLast 15 = .ok (.isub, 1) := by decide +kernel
theorem d_L_removeLast_16 : decode b_L_removeLast 16 = .ok (.putfield 15, 3) := by decide +kernel
theorem d_L_removeLast_19 : decode b_L_removeLast 19 = .ok (.iconst 1, 1) := by decide +kernel
theorem d_L_removeLast_20 : decode b_L_removeLast 20 = .ok (.ireturn, 1) := by decide +kernel
theorem d_L_clear_0 : decode b_L_clear 0 = .ok (.aload_n 0, 1) := by decide +kernel
theorem d_L_clear_1 : decode b_L_clear 1 = .ok (.iconst 0, 1) := by decide +kernel
theorem d_L_clear_2 : decode b_L_clear 2 = .ok (.putfield 15, 3) := by decide +kernel
theorem d_L_clear_5 : decode b_L_clear 5 = .ok (.return_, 1) := by decide +kernel
theorem d_L_copyFrom_0 : decode b_L_copyFrom 0 = .ok (.aload_n 0, 1) := by decide +kernel
theorem d_L_copyFrom_1 : decode b_L_copyFrom 1 = .ok (.invokevirtual 19, 3) := by decide +kernel
theorem d_L_copyFrom_4 : decode b_L_copyFrom 4 = .ok (.iconst 0, 1) := by decide +kernel
theorem d_L_copyFrom_5 : decode b_L_copyFrom 5 = .ok (.istore_n 2, 1) := by decide +kernel
theorem d_L_copyFrom_6 : decode b_L_copyFrom 6 = .ok (.iload_n 2, 1) := by decide +kernel
theorem d_L_copyFrom_7 : decode b_L_copyFrom 7 = .ok (.aload_n 1, 1) := by decide +kernel
theorem d_L_copyFrom_8 : decode b_L_copyFrom 8 = .ok (.getfield 15, 3) := by decide +kernel
theorem d_L_copyFrom_11 : decode b_L_copyFrom 11 = .ok (.if_icmp .ge 19, 3) := by decide +kernel
theorem d_L_copyFrom_14 : decode b_L_copyFrom 14 = .ok (.aload_n 0, 1) := by decide +kernel
theorem d_L_copyFrom_15 : decode b_L_copyFrom 15 = .ok (.aload_n 1, 1) := by decide +kernel
theorem d_L_copyFrom_16 : decode b_L_copyFrom 16 = .ok (.iload_n 2, 1) := by decide +kernel
theorem d_L_copyFrom_17 : decode b_L_copyFrom 17 = .ok (.invokevirtual 22, 3) := by decide +kernel
theorem d_L_copyFrom_20 : decode b_L_copyFrom 20 = .ok (.invokevirtual 26, 3) := by decide +kernel
theorem d_L_copyFrom_23 : decode b_L_copyFrom 23 = .ok (.pop, 1) := by decide +kernel
theorem d_L_copyFrom_24 : decode b_L_copyFrom 24 = .ok (.iinc 2 1, 3) := by decide +kernel
theorem d_L_copyFrom_27 : decode b_L_copyFrom 27 = .ok (.goto (-21), 3) := by decide +kernel
theorem d_L_copyFrom_30 : decode b_L_copyFrom 30 = .ok (.return_, 1) := by decide +kernel
theorem d_L_beginsWith_0 : decode b_L_beginsWith 0 = .ok (.iconst 0, 1) := by decide +kernel
theorem d_L_beginsWith_1 : decode b_L_beginsWith 1 = .ok (.istore_n 2, 1) := by decide +kernel
theorem d_L_beginsWith_2 : decode b_L_beginsWith 2 = .ok (.iload_n 2, 1) := by decide +kernel
theorem d_L_beginsWith_3 : decode b_L_beginsWith 3 = .ok (.aload_n 1, 1) := by decide +kernel
theorem d_L_beginsWith_4 : decode b_L_beginsWith 4 = .ok (.getfield 15, 3) := by decide +kernel
theorem d_L_beginsWith_7 : decode b_L_beginsWith 7 = .ok (.if_icmp .ge 24, 3) := by decide +kernel
theorem d_L_beginsWith_10 : decode b_L_beginsWith 10 = .ok (.aload_n 0, 1) := by decide +kernel
theorem d_L_beginsWith_11 : decode b_L_beginsWith 11 = .ok (.iload_n 2, 1) := by decide +kernel
theorem d_L_beginsWith_12 : decode b_L_beginsWith 12 = .ok (.invokevirtual 22, 3) := by decide +kernel
theorem d_L_beginsWith_15 : decode b_L_beginsWith 15 = .ok (.aload_n 1, 1) := by decide +kernel
theorem d_L_beginsWith_16 : decode b_L_beginsWith 16 = .ok (.iload_n 2, 1) := by decide +kernel
theorem d_L_beginsWith_17 : decode b_L_beginsWith 17 = .ok (.invokevirtual 22, 3) := by decide +kernel
theorem d_L_beginsWith_20 : decode b_L_beginsWith 20 = .ok (.if_icmp .eq 5, 3) := by decide +kernel
theorem d_L_beginsWith_23 : decode b_L_beginsWith 23 = .ok (.iconst 0, 1) := by decide +kernel
theorem d_L_beginsWith_24 : decode b_L_beginsWith 24 = .ok (.ireturn, 1) := by decide +kernel
theorem d_L_beginsWith_25 : decode b_L_beginsWith 25 = .ok (.iinc 2 1, 3) := by decide +kernel
theorem d_L_beginsWith_28 : decode b_L_beginsWith 28 = .ok (.goto (-26), 3) := by decide +kernel
theorem d_L_beginsWith_31 : decode b_L_beginsWith 31 = .ok (.iconst 1, 1) := by decide +kernel
theorem d_L_beginsWith_32 : decode b_L_beginsWith 32 = .ok (.ireturn, 1) := by decide +kernel
theorem d_L_isSameAs_0 : decode b_L_isSameAs 0 = .ok (.aload_n 0, 1) := by decide +kernel
theorem d_L_isSameAs_1 : decode b_L_isSameAs 1 = .ok (.getfield 15, 3) := by decide +kernel
theorem d_L_isSameAs_4 : decode b_L_isSameAs 4 = .ok (.aload_n 1, 1) := by decide +kernel
theorem d_L_isSameAs_5 : decode b_L_isSameAs 5 = .ok (.getfield 15, 3) := by decide +kernel
theorem d_L_isSameAs_8 : decode b_L_isSameAs 8 = .ok (.if_icmp .ne 15, 3) := by decide +kernel
theorem d_L_isSameAs_11 : decode b_L_isSameAs 11 = .ok (.aload_n 0, 1) := by decide +kernel
theorem d_L_isSameAs_12 : decode b_L_isSameAs 12 = .ok (.aload_n 1, 1) := by decide +kernel
theorem d_L_isSameAs_13 : decode b_L_isSameAs 13 = .ok (.invokevirtual 30, 3) := by decide +kernel
theorem d_L_isSameAs_16 : decode b_L_isSameAs 16 = .ok (.ifCond .eq 7, 3) := by decide +kernel
theorem d_L_isSameAs_19 : decode b_L_isSameAs 19 = .ok (.iconst 1, 1) := by decide +kernel
theorem d_L_isSameAs_20 : decode b_L_isSameAs 20 = .ok (.goto 4, 3) := by decide +kernel
theorem d_L_isSameAs_23 : decode b_L_isSameAs 23 = .ok (.iconst 0, 1) := by decide +kernel
theorem d_L_isSameAs_24 : decode b_L_isSameAs 24 = .ok (.ireturn, 1) := by decide +kernel
theorem d_L_isBefore_0 : decode b_L_isBefore 0 = .ok (.iconst 0, 1) := by decide +kernel
theorem d_L_isBefore_1 : decode b_L_isBefore 1 = .ok (.istore_n 2, 1) := by decide +kernel
theorem d_L_isBefore_2 : decode b_L_isBefore 2 = .ok (.iload_n 2, 1) := by decide +kernel
theorem d_L_isBefore_3 : decode b_L_isBefore 3 = .ok (.aload_n 1, 1) := by decide +kernel
theorem d_L_isBefore_4 : decode b_L_isBefore 4 = .ok (.getfield 15, 3) := by decide +kernel
theorem d_L_isBefore_7 : decode b_L_isBefore 7 = .ok (.if_icmp .ge 41, 3) := by decide +kernel
theorem d_L_isBefore_10 : decode b_L_isBefore 10 = .ok (.aload_n 0, 1) := by decide +kernel
theorem d_L_isBefore_11 : decode b_L_isBefore 11 = .ok (.iload_n 2, 1) := by decide +kernel
theorem d_L_isBefore_12 : decode b_L_isBefore 12 = .ok (.invokevirtual 22, 3) := by decide +kernel
theorem d_L_isBefore_15 : decode b_L_isBefore 15 = .ok (.aload_n 1, 1) := by decide +kernel
theorem d_L_isBefore_16 : decode b_L_isBefore 16 = .ok (.iload_n 2, 1) := by decide +kernel
theorem d_L_isBefore_17 : decode b_L_isBefore 17 = .ok (.invokevirtual 22, 3) := by decide +kernel
theorem d_L_isBefore_20 : decode b_L_isBefore 20 = .ok (.if_icmp .eq 22, 3) := by decide +kernel
theorem d_L_isBefore_23 : decode b_L_isBefore 23 = .ok (.aload_n 0, 1) := by decide +kernel
theorem d_L_isBefore_24 : decode b_L_isBefore 24 = .ok (.iload_n 2, 1) := by decide +kernel
theorem d_L_isBefore_25 : decode b_L_isBefore 25 = .ok (.invokevirtual 22, 3) := by decide +kernel
theorem d_L_isBefore_28 : decode b_L_isBefore 28 = .ok (.aload_n 1, 1) := by decide +kernel
theorem d_L_isBefore_29 : decode b_L_isBefore 29 = .ok (.iload_n 2, 1) := by decide +kernel
theorem d_L_isBefore_30 : decode b_L_isBefore 30 = .ok (.invokevirtual 22, 3) := by decide +kernel
theorem d_L_isBefore_33 : decode b_L_isBefore 33 = .ok (.if_icmp .ge 7, 3) := by decide +kernel
theorem d_L_isBefore_36 : decode b_L_isBefore 36 = .ok (.iconst 1, 1) := by decide +kernel
theorem d_L_isBefore_37 : decode b_L_isBefore 37 = .ok (.goto 4, 3) := by decide +kernel
theorem d_L_isBefore_40 : decode b_L_isBefore 40 = .ok (.iconst 0, 1) := by decide +kernel
theorem d_L_isBefore_41 : decode b_L_isBefore 41 = .ok (.ireturn, 1) := by decide +kernel
theorem d_L_isBefore_42 : decode b_L_isBefore 42 = .ok (.iinc 2 1, 3) := by decide +kernel
theorem d_L_isBefore_45 : decode b_L_isBefore 45 = .ok (.goto (-43), 3) := by decide +kernel
theorem d_L_isBefore_48 : decode b_L_isBefore 48 = .ok (.iconst 0, 1) := by decide +kernel
theorem d_L_isBefore_49 : decode b_L_isBefore 49 = .ok (.ireturn, 1) := by decide +kernel
theorem d_W_init_0 : decode b_W_init 0 = .ok (.aload_n 0, 1) := by decide +kernel
theorem d_W_init_1 : decode b_W_init 1 = .ok (.invokespecial 3, 3) := by decide +kernel
theorem d_W_init_4 : decode b_W_init 4 = .ok (.aload_n 0, 1) := by decide +kernel
theorem d_W_init_5 : decode b_W_init 5 = .ok (.new 9, 3) := by decide +kernel
theorem d_W_init_8 : decode b_W_init 8 = .ok (.dup, 1) := by decide +kernel
theorem d_W_init_9 : decode b_W_init 9 = .ok (.bipush 8, 2) := by decide +kernel
theorem d_W_init_11 : decode b_W_init 11 = .ok (.invokespecial 11, 3) := by decide +kernel
theorem d_W_init_14 : decode b_W_init 14 = .ok (.putfield 14, 3) := by decide +kernel
theorem d_W_init_17 : decode b_W_init 17 = .ok (.aload_n 0, 1) := by decide +kernel
theorem d_W_init_18 : decode b_W_init 18 = .ok (.iconst 0, 1) := by decide +kernel
theorem d_W_init_19 : decode b_W_init 19 = .ok (.putfield 20, 3) := by decide +kernel
theorem d_W_init_22 : decode b_W_init 22 = .ok (.return_, 1) := by decide +kernel
end
section
theorem d_M_init_0 : decode b_M_init 0 = .ok (.aload_n 0, 1) := by decide +kernel
theorem d_M_init_1 : decode b_M_init 1 = .ok (.invokespecial 1, 3) := by decide +kernel
theorem d_M_init_4 : decode b_M_init 4 = .ok (.aload_n 0, 1) := by decide +kernel
theorem d_M_init_5 : decode b_M_init 5 = .ok (.bipush 10, 2) := by decide +kernel
theorem d_M_init_7 : decode b_M_init 7 = .ok (.newarray .int, 2) := by decide +kernel
theorem d_M_init_9 : decode b_M_init 9 = .ok (.putfield 7, 3) := by decide +kernel
theorem d_M_init_12 : decode b_M_init 12 = .ok (.aload_n 0, 1) := by decide +kernel
theorem d_M_init_13 : decode b_M_init 13 = .ok (.sipush 192, 3) := by decide +kernel
theorem d_M_init_16 : decode b_M_init 16 = .ok (.newarray .int, 2) := by decide +kernel
theorem d_M_init_18 : decode b_M_init 18 = .ok (.putfield 13, 3) := by decide +kernel
theorem d_M_init_21 : decode b_M_init 21 = .ok (.aload_n 0, 1) := by decide +kernel
theorem d_M_init_22 : decode b_M_init 22 = .ok (.bipush 24, 2) := by decide +kernel
theorem d_M_init_24 : decode b_M_init 24 = .ok (.newarray .int, 2) := by decide +kernel
theorem d_M_init_26 : decode b_M_init 26 = .ok (.putfield 16, 3) := by decide +kernel
theorem d_M_init_29 : decode b_M_init 29 = .ok (.aload_n 0, 1) := by decide +kernel
theorem d_M_init_30 : decode b_M_init 30 = .ok (.bipush 24, 2) := by decide +kernel
theorem d_M_init_32 : decode b_M_init 32 = .ok (.newarray .int, 2) := by decide +kernel
theorem d_M_init_34 : decode b_M_init 34 = .ok (.putfield 19, 3) := by decide +kernel
theorem d_M_init_37 : decode b_M_init 37 = .ok (.aload_n 0, 1) := by decide +kernel
theorem d_M_init_38 : decode b_M_init 38 = .ok (.bipush 99, 2) := by decide +kernel
theorem d_M_init_40 : decode b_M_init 40 = .ok (.newarray .int, 2) := by decide +kernel
theorem d_M_init_42 : decode b_M_init 42 = .ok (.putfield 22, 3) := by decide +kernel
theorem d_M_init_45 : decode b_M_init 45 = .ok (.aload_n 0, 1) := by decide +kernel
theorem d_M_init_46 : decode b_M_init 46 = .ok (.sipush 252, 3) := by decide +kernel
theorem d_M_init_49 : decode b_M_init 49 = .ok (.newarray .long, 2) := by decide +kernel
theorem d_M_init_51 : decode b_M_init 51 = .ok (.putfield 25, 3) := by decide +kernel
theorem d_M_init_54 : decode b_M_init 54 = .ok (.aload_n 0, 1) := by decide +kernel
theorem d_M_init_55 : decode b_M_init 55 = .ok (.iconst 0, 1) := by decide +kernel
theorem d_M_init_56 : decode b_M_init 56 = .ok (.putfield 29, 3) := by decide +kernel
theorem d_M_init_59 : decode b_M_init 59 = .ok (.return_, 1) := by decide +kernel
theorem d_M_key_0 : decode b_M_key 0 = .ok (.iload_n 1, 1) := by decide +kernel
theorem d_M_key_1 : decode b_M_key 1 = .ok (.ifCond .lt 18, 3) := by decide +kernel
theorem d_M_key_4 : decode b_M_key 4 = .ok (.iload_n 1, 1) := by decide +kernel
theorem d_M_key_5 : decode b_M_key 5 = .ok (.bipush 25, 2) := by decide +kernel
theorem d_M_key_7 : decode b_M_key 7 = .ok (.if_icmp .gt 12, 3) := by decide +kernel
theorem d_M_key_10 : decode b_M_key 10 = .ok (.aload_n 0, 1) := by decide +kernel
theorem d_M_key_11 : decode b_M_key 11 = .ok (.getfield 29, 3) := by decide +kernel
theorem d_M_key_14 : decode b_M_key 14 = .ok (.bipush 10, 2) := by decide +kernel
theorem d_M_key_16 : decode b_M_key 16 = .ok (.if_icmp .ne 5, 3) := by decide +kernel
theorem d_M_key_19 : decode b_M_key 19 = .ok (.iconst 0, 1) := by decide +kernel
theorem d_M_key_20 : decode b_M_key 20 = .ok (.ireturn, 1) := by decide +kernel
theorem d_M_key_21 : decode b_M_key 21 = .ok (.aload_n 0, 1) := by decide +kernel
theorem d_M_key_22 : decode b_M_key 22 = .ok (.getfield 7, 3) := by decide +kernel
theorem d_M_key_25 : decode b_M_key 25 = .ok (.aload_n 0, 1) := by decide +kernel
theorem d_M_key_26 : decode b_M_key 26 = .ok (.getfield 29, 3) := by decide +kernel
theorem d_M_key_29 : decode b_M_key 29 = .ok (.iload_n 1, 1) := by decide +kernel
theorem d_M_key_30 : decode b_M_key 30 = .ok (.iastore, 1) := by decide +kernel
theorem d_M_key_31 : decode b_M_key 31 = .ok (.aload_n 0, 1) := by decide +kernel
theorem d_M_key_32 : decode b_M_key 32 = .ok (.dup, 1) := by decide +kernel
theorem d_M_key_33 : decode b_M_key 33 = .ok (.getfield 29, 3) := by decide +kernel
theorem d_M_key_36 : decode b_M_key 36 = .ok (.iconst 1, 1) := by decide +kernel
theorem d_M_key_37 : decode b_M_key 37 = .ok (.iadd, 1) := by decide +kernel
theorem d_M_key_38 : decode b_M_key 38 = .ok (.putfield 29, 3) := by decide +kernel
theorem d_M_key_41 : decode b_M_key 41 = .ok (.iconst 1, 1) := by decide +kernel
theorem d_M_key_42 : decode b_M_key 42 = .ok (.ireturn, 1) := by decide +kernel
theorem d_M_back_0 : decode b_M_back 0 = .ok (.aload_n 0, 1) := by decide +kernel
theorem d_M_back_1 : decode b_M_back 1 = .ok (.getfield 29, 3) := by decide +kernel
theorem d_M_back_4 : decode b_M_back 4 = .ok (.ifCond .ne 5, 3) := by decide +kernel
theorem d_M_back_7 : decode b_M_back 7 = .ok (.iconst 0, 1) := by decide +kernel
theorem d_M_back_8 : decode b_M_back 8 = .ok (.ireturn, 1) := by decide +kernel
theorem d_M_back_9 : decode b_M_back 9 = .ok (.aload_n 0, 1) := by decide +kernel
theorem d_M_back_10 : decode b_M_back 10 = .ok (.dup, 1) := by decide +kernel
theorem d_M_back_11 : decode b_M_back 11 = .ok (.getfield 29, 3) := by decide +kernel
theorem d_M_back_14 : decode b_M_back 14 = .ok (.iconst 1, 1) := by decide +kernel
theorem d_M_back_15 : decode b_M_back 15 = .ok (.isub, 1) := by decide +kernel
theorem d_M_back_16 : decode b_M_back 16 = .ok (.putfield 29, 3) := by decide +kernel
theorem d_M_back_19 : decode b_M_back 19 = .ok (.iconst 1, 1) := by decide +kernel
theorem d_M_back_20 : decode b_M_back 20 = .ok (.ireturn, 1) := by decide +kernel
theorem d_M_wipe_0 : decode b_M_wipe 0 = .ok (.aload_n 0, 1) := by decide +kernel
theorem d_M_wipe_1 : decode b_M_wipe 1 = .ok (.iconst 0, 1) := by decide +kernel
theorem d_M_wipe_2 : decode b_M_wipe 2 = .ok (.putfield 29, 3) := by decide +kernel
theorem d_M_wipe_5 : decode b_M_wipe 5 = .ok (.return_, 1) := by decide +kernel
theorem d_M_length_0 : decode b_M_length 0 = .ok (.aload_n 0, 1) := by decide +kernel
theorem d_M_length_1 : decode b_M_length 1 = .ok (.getfield 29, 3) := by decide +kernel
theorem d_M_length_4 : decode b_M_length 4 = .ok (.ireturn, 1) := by decide +kernel
theorem d_M_typed_0 : decode b_M_typed 0 = .ok (.iload_n 1, 1) := by decide +kernel
theorem d_M_typed_1 : decode b_M_typed 1 = .ok (.ifCond .lt 20, 3) := by decide +kernel
theorem d_M_typed_4 : decode b_M_typed 4 = .ok (.iload_n 1, 1) := by decide +kernel
theorem d_M_typed_5 : decode b_M_typed 5 = .ok (.aload_n 0, 1) := by decide +kernel
theorem d_M_typed_6 : decode b_M_typed 6 = .ok (.getfield 29, 3) := by decide +kernel
theorem d_M_typed_9 : decode b_M_typed 9 = .ok (.if_icmp .ge 12, 3) := by decide +kernel
theorem d_M_typed_12 : decode b_M_typed 12 = .ok (.aload_n 0, 1) := by decide +kernel
theorem d_M_typed_13 : decode b_M_typed 13 = .ok (.getfield 7, 3) := by decide +kernel
theorem d_M_typed_16 : decode b_M_typed 16 = .ok (.iload_n 1, 1) := by decide +kernel
theorem d_M_typed_17 : decode b_M_typed 17 = .ok (.iaload, 1) := by decide +kernel
theorem d_M_typed_18 : decode b_M_typed 18 = .ok (.goto 4, 3) := by decide +kernel
theorem d_M_typed_21 : decode b_M_typed 21 = .ok (.iconst (-1), 1) := by decide +kernel
theorem d_M_typed_22 : decode b_M_typed 22 = .ok (.ireturn, 1) := by decide +kernel
theorem d_M_at_0 : decode b_M_at 0 = .ok (.iload_n 2, 1) := by decide +kernel
theorem d_M_at_1 : decode b_M_at 1 = .ok (.aload_n 0, 1) := by decide +kernel
theorem d_M_at_2 : decode b_M_at 2 = .ok (.getfield 16, 3) := by decide +kernel
theorem d_M_at_5 : decode b_M_at 5 = .ok (.iload_n 1, 1) := by decide +kernel
theorem d_M_at_6 : decode b_M_at 6 = .ok (.iaload, 1) := by decide +kernel
theorem d_M_at_7 : decode b_M_at 7 = .ok (.if_icmp .ge 17, 3) := by decide +kernel
theorem d_M_at_10 : decode b_M_at 10 = .ok (.aload_n 0, 1) := by decide +kernel
theorem d_M_at_11 : decode b_M_at 11 = .ok (.getfield 13, 3) := by decide +kernel
theorem d_M_at_14 : decode b_M_at 14 = .ok (.bipush 8, 2) := by decide +kernel
theorem d_M_at_16 : decode b_M_at 16 = .ok (.iload_n 1, 1) := by decide +kernel
theorem d_M_at_17 : decode b_M_at 17 = .ok (.imul, 1) := by decide +kernel
theorem d_M_at_18 : decode b_M_at 18 = .ok (.iload_n 2, 1) := by decide +kernel
theorem d_M_at_19 : decode b_M_at 19 = .ok (.iadd, 1) := by decide +kernel
theorem d_M_at_20 : decode b_M_at 20 = .ok (.iaload, 1) := by decide +kernel
theorem d_M_at_21 : decode b_M_at 21 = .ok (.goto 4, 3) := by decide +kernel
theorem d_M_at_24 : decode b_M_at 24 = .ok (.iconst (-1), 1) := by decide +kernel
theorem d_M_at_25 : decode b_M_at 25 = .ok (.ireturn, 1) := by decide +kernel
theorem d_M_before_0 : decode b_M_before 0 = .ok (.iconst 0, 1) := by decide +kernel
theorem d_M_before_1 : decode b_M_before 1 = .ok (.istore_n 3, 1) := by decide +kernel
theorem d_M_before_2 : decode b_M_before 2 = .ok (.iload_n 3, 1) := by decide +kernel
theorem d_M_before_3 : decode b_M_before 3 = .ok (.bipush 8, 2) := by decide +kernel
theorem d_M_before_5 : decode b_M_before 5 = .ok (.if_icmp .ge 45, 3) := by decide +kernel
theorem d_M_before_8 : decode b_M_before 8 = .ok (.aload_n 0, 1) := by decide +kernel
theorem d_M_before_9 : decode b_M_before 9 = .ok (.iload_n 1, 1) := by decide +kernel
theorem d_M_before_10 : decode b_M_before 10 = .ok (.iload_n 3, 1) := by decide +kernel
theorem d_M_before_11 : decode b_M_before 11 = .ok (.invokevirtual 33, 3) := by decide +kernel
theorem d_M_before_14 : decode b_M_before 14 = .ok (.aload_n 0, 1) := by decide +kernel
theorem d_M_before_15 : decode b_M_before 15 = .ok (.iload_n 2, 1) := by decide +kernel
theorem d_M_before_16 : decode b_M_before 16 = .ok (.iload_n 3, 1) := by decide +kernel
theorem d_M_before_17 : decode b_M_before 17 = .ok (.invokevirtual 33, 3) := by decide +kernel
theorem d_M_before_20 : decode b_M_before 20 = .ok (.if_icmp .eq 24, 3) := by decide +kernel
theorem d_M_before_23 : decode b_M_before 23 = .ok (.aload_n 0, 1) := by decide +kernel
theorem d_M_before_24 : decode b_M_before 24 = .ok (.iload_n 1, 1) := by decide +kernel
theorem d_M_before_25 : decode b_M_before 25 = .ok (.iload_n 3, 1) := by decide +kernel
theorem d_M_before_26 : decode b_M_before 26 = .ok (.invokevirtual 33, 3) := by decide +kernel
theorem d_M_before_29 : decode b_M_before 29 = .ok (.aload_n 0, 1) := by decide +kernel
theorem d_M_before_30 : decode b_M_before 30 = .ok (.iload_n 2, 1) := by decide +kernel
theorem d_M_before_31 : decode b_M_before 31 = .ok (.iload_n 3, 1) := by decide +kernel
theorem d_M_before_32 : decode b_M_before 32 = .ok (.invokevirtual 33, 3) := by decide +kernel
theorem d_M_before_35 : decode b_M_before 35 = .ok (.if_icmp .ge 7, 3) := by decide +kernel
theorem d_M_before_38 : decode b_M_before 38 = .ok (.iconst 1, 1) := by decide +kernel
theorem d_M_before_39 : decode b_M_before 39 = .ok (.goto 4, 3) := by decide +kernel
theorem d_M_before_42 : decode b_M_before 42 = .ok (.iconst 0, 1) := by decide +kernel
theorem d_M_before_43 : decode b_M_before 43 = .ok (.ireturn, 1) := by decide +kernel
theorem d_M_before_44 : decode b_M_before 44 = .ok (.iinc 3 1, 3) := by decide +kernel
theorem d_M_before_47 : decode b_M_before 47 = .ok (.goto (-45), 3) := by decide +kernel
theorem d_M_before_50 : decode b_M_before 50 = .ok (.iconst 0, 1) := by decide +kernel
theorem d_M_before_51 : decode b_M_before 51 = .ok (.ireturn, 1) := by decide +kernel
theorem d_M_rankOf_0 : decode b_M_rankOf 0 = .ok (.iconst 0, 1) := by decide +kernel
theorem d_M_rankOf_1 : decode b_M_rankOf 1 = .ok (.istore_n 2, 1) := by decide +kernel
theorem d_M_rankOf_2 : decode b_M_rankOf 2 = .ok (.iconst 0, 1) := by decide +kernel
theorem d_M_rankOf_3 : decode b_M_rankOf 3 = .ok (.istore_n 3, 1) := by decide +kernel
theorem d_M_rankOf_4 : decode b_M_rankOf 4 = .ok (.iload_n 3, 1) := by decide +kernel
theorem d_M_rankOf_5 : decode b_M_rankOf 5 = .ok (.aload_n 0, 1) := by decide +kernel
theorem d_M_rankOf_6 : decode b_M_rankOf 6 = .ok (.getfield 37, 3) := by decide +kernel
theorem d_M_rankOf_9 : decode b_M_rankOf 9 = .ok (.if_icmp .ge 21, 3) := by decide +kernel
theorem d_M_rankOf_12 : decode b_M_rankOf 12 = .ok (.aload_n 0, 1) := by decide +kernel
theorem d_M_rankOf_13 : decode b_M_rankOf 13 = .ok (.iload_n 3, 1) := by decide +kernel
theorem d_M_rankOf_14 : decode b_M_rankOf 14 = .ok (.iload_n 1, 1) := by decide +kernel
theorem d_M_rankOf_15 : decode b_M_rankOf 15 = .ok (.invokevirtual 40, 3) := by decide +kernel
theorem d_M_rankOf_18 : decode b_M_rankOf 18 = .ok (.ifCond .eq 6, 3) := by decide +kernel
theorem d_M_rankOf_21 : decode b_M_rankOf 21 = .ok (.iinc 2 1, 3) := by decide +kernel
theorem d_M_rankOf_24 : decode b_M_rankOf 24 = .ok (.iinc 3 1, 3) := by decide +kernel
theorem d_M_rankOf_27 : decode b_M_rankOf 27 = .ok (.goto (-23), 3) := by decide +kernel
theorem d_M_rankOf_30 : decode b_M_rankOf 30 = .ok (.iload_n 2, 1) := by decide +kernel
theorem d_M_rankOf_31 : decode b_M_rankOf 31 = .ok (.ireturn, 1) := by decide +kernel
theorem d_M_place_0 : decode b_M_place 0 = .ok (.iconst 0, 1) := by decide +kernel
theorem d_M_place_1 : decode b_M_place 1 = .ok (.istore_n 2, 1) := by decide +kernel
theorem d_M_place_2 : decode b_M_place 2 = .ok (.iload_n 2, 1) := by decide +kernel
theorem d_M_place_3 : decode b_M_place 3 = .ok (.aload_n 0, 1) := by decide +kernel
theorem d_M_place_4 : decode b_M_place 4 = .ok (.getfield 37, 3) := by decide +kernel
theorem d_M_place_7 : decode b_M_place 7 = .ok (.if_icmp .ge 20, 3) := by decide +kernel
theorem d_M_place_10 : decode b_M_place 10 = .ok (.aload_n 0, 1) := by decide +kernel
theorem d_M_place_11 : decode b_M_place 11 = .ok (.iload_n 2, 1) := by decide +kernel
theorem d_M_place_12 : decode b_M_place 12 = .ok (.invokevirtual 44, 3) := by decide +kernel
theorem d_M_place_15 : decode b_M_place 15 = .ok (.iload_n 1, 1) := by decide +kernel
theorem d_M_place_16 : decode b_M_place 16 = .ok (.if_icmp .ne 5, 3) := by decide +kernel
theorem d_M_place_19 : decode b_M_place 19 = .ok (.iload_n 2, 1) := by decide +kernel
theorem d_M_place_20 : decode b_M_place 20 = .ok (.ireturn, 1) := by decide +kernel
theorem d_M_place_21 : decode b_M_place 21 = .ok (.iinc 2 1, 3) := by decide +kernel
theorem d_M_place_24 : decode b_M_place 24 = .ok (.goto (-22), 3) := by decide +kernel
theorem d_M_place_27 : decode b_M_place 27 = .ok (.iconst (-1), 1) := by decide +kernel
theorem d_M_place_28 : decode b_M_place 28 = .ok (.ireturn, 1) := by decide +kernel
theorem d_M_beginsTyped_0 : decode b_M_beginsTyped 0 = .ok (.aload_n 0, 1) := by decide +kernel
theorem d_M_beginsTyped_1 : decode b_M_beginsTyped 1 = .ok (.getfield 16, 3) := by decide +kernel
theorem d_M_beginsTyped_4 : decode b_M_beginsTyped 4 = .ok (.iload_n 1, 1) := by decide +kernel
theorem d_M_beginsTyped_5 : decode b_M_beginsTyped 5 = .ok (.iaload, 1) := by decide +kernel
theorem d_M_beginsTyped_6 : decode b_M_beginsTyped 6 = .ok (.aload_n 0, 1) := by decide +kernel
theorem d_M_beginsTyped_7 : decode b_M_beginsTyped 7 = .ok (.getfield 29, 3) := by decide +kernel
theorem d_M_beginsTyped_10 : decode b_M_beginsTyped 10 = .ok (.if_icmp .ge 5, 3) := by decide +kernel
theorem d_M_beginsTyped_13 : decode b_M_beginsTyped 13 = .ok (.iconst 0, 1) := by decide +kernel
theorem d_M_beginsTyped_14 : decode b_M_beginsTyped 14 = .ok (.ireturn, 1) := by decide +kernel
theorem d_M_beginsTyped_15 : decode b_M_beginsTyped 15 = .ok (.iconst 0, 1) := by decide +kernel
theorem d_M_beginsTyped_16 : decode b_M_beginsTyped 16 = .ok (.istore_n 2, 1) := by decide +kernel
theorem d_M_beginsTyped_17 : decode b_M_beginsTyped 17 = .ok (.iload_n 2, 1) := by decide +kernel
theorem d_M_beginsTyped_18 : decode b_M_beginsTyped 18 = .ok (.aload_n 0, 1) := by decide +kernel
theorem d_M_beginsTyped_19 : decode b_M_beginsTyped 19 = .ok (.getfield 29, 3) := by decide +kernel
theorem d_M_beginsTyped_22 : decode b_M_beginsTyped 22 = .ok (.if_icmp .ge 31, 3) := by decide +kernel
theorem d_M_beginsTyped_25 : decode b_M_beginsTyped 25 = .ok (.aload_n 0, 1) := by decide +kernel
theorem d_M_beginsTyped_26 : decode b_M_beginsTyped 26 = .ok (.getfield 13, 3) := by decide +kernel
theorem d_M_beginsTyped_29 : decode b_M_beginsTyped 29 = .ok (.bipush 8, 2) := by decide +kernel
theorem d_M_beginsTyped_31 : decode b_M_beginsTyped 31 = .ok (.iload_n 1, 1) := by decide +kernel
theorem d_M_beginsTyped_32 : decode b_M_beginsTyped 32 = .ok (.imul, 1) := by decide +kernel
theorem d_M_beginsTyped_33 : decode b_M_beginsTyped 33 = .ok (.iload_n 2, 1) := by decide +kernel
theorem d_M_beginsTyped_34 : decode b_M_beginsTyped 34 = .ok (.iadd, 1) := by decide +kernel
theorem d_M_beginsTyped_35 : decode b_M_beginsTyped 35 = .ok (.iaload, 1) := by decide +kernel
theorem d_M_beginsTyped_36 : decode b_M_beginsTyped 36 = .ok (.aload_n 0, 1) := by decide +kernel
theorem d_M_beginsTyped_37 : decode b_M_beginsTyped 37 = .ok (.getfield 7, 3) := by decide +kernel
theorem d_M_beginsTyped_40 : decode b_M_beginsTyped 40 = .ok (.iload_n 2, 1) := by decide +kernel
theorem d_M_beginsTyped_41 : decode b_M_beginsTyped 41 = .ok (.iaload, 1) := by decide +kernel
theorem d_M_beginsTyped_42 : decode b_M_beginsTyped 42 = .ok (.if_icmp .eq 5, 3) := by decide +kernel
theorem d_M_beginsTyped_45 : decode b_M_beginsTyped 45 = .ok (.iconst 0, 1) := by decide +kernel
theorem d_M_beginsTyped_46 : decode b_M_beginsTyped 46 = .ok (.ireturn, 1) := by decide +kernel
theorem d_M_beginsTyped_47 : decode b_M_beginsTyped 47 = .ok (.iinc 2 1, 3) := by decide +kernel
theorem d_M_beginsTyped_50 : decode b_M_beginsTyped 50 = .ok (.goto (-33), 3) := by decide +kernel
theorem d_M_beginsTyped_53 : decode b_M_beginsTyped 53 = .ok (.iconst 1, 1) := by decide +kernel
theorem d_M_beginsTyped_54 : decode b_M_beginsTyped 54 = .ok (.ireturn, 1) := by decide +kernel
theorem d_M_same_0 : decode b_M_same 0 = .ok (.iconst 0, 1) := by decide +kernel
theorem d_M_same_1 : decode b_M_same 1 = .ok (.istore_n 1, 1) := by decide +kernel
theorem d_M_same_2 : decode b_M_same 2 = .ok (.iload_n 1, 1) := by decide +kernel
theorem d_M_same_3 : decode b_M_same 3 = .ok (.aload_n 0, 1) := by decide +kernel
theorem d_M_same_4 : decode b_M_same 4 = .ok (.getfield 37, 3) := by decide +kernel
theorem d_M_same_7 : decode b_M_same 7 = .ok (.if_icmp .ge 32, 3) := by decide +kernel
theorem d_M_same_10 : decode b_M_same 10 = .ok (.aload_n 0, 1) := by decide +kernel
theorem d_M_same_11 : decode b_M_same 11 = .ok (.getfield 16, 3) := by decide +kernel
theorem d_M_same_14 : decode b_M_same 14 = .ok (.iload_n 1, 1) := by decide +kernel
theorem d_M_same_15 : decode b_M_same 15 = .ok (.iaload, 1) := by decide +kernel
theorem d_M_same_16 : decode b_M_same 16 = .ok (.aload_n 0, 1) := by decide +kernel
theorem d_M_same_17 : decode b_M_same 17 = .ok (.getfield 29, 3) := by decide +kernel
theorem d_M_same_20 : decode b_M_same 20 = .ok (.if_icmp .ne 13, 3) := by decide +kernel
theorem d_M_same_23 : decode b_M_same 23 = .ok (.aload_n 0, 1) := by decide +kernel
theorem d_M_same_24 : decode b_M_same 24 = .ok (.iload_n 1, 1) := by decide +kernel
theorem d_M_same_25 : decode b_M_same 25 = .ok (.invokevirtual 48, 3) := by decide +kernel
theorem d_M_same_28 : decode b_M_same 28 = .ok (.ifCond .eq 5, 3) := by decide +kernel
theorem d_M_same_31 : decode b_M_same 31 = .ok (.iload_n 1, 1) := by decide +kernel
theorem d_M_same_32 : decode b_M_same 32 = .ok (.ireturn, 1) := by decide +kernel
theorem d_M_same_33 : decode b_M_same 33 = .ok (.iinc 1 1, 3) := by decide +kernel
theorem d_M_same_36 : decode b_M_same 36 = .ok (.goto (-34), 3) := by decide +kernel
theorem d_M_same_39 : decode b_M_same 39 = .ok (.iconst (-1), 1) := by decide +kernel
theorem d_M_same_40 : decode b_M_same 40 = .ok (.ireturn, 1) := by decide +kernel
theorem d_M_learn_0 : decode b_M_learn 0 = .ok (.iload_n 1, 1) := by decide +kernel
theorem d_M_learn_1 : decode b_M_learn 1 = .ok (.iconst 1, 1) := by decide +kernel
theorem d_M_learn_2 : decode b_M_learn 2 = .ok (.if_icmp .lt 9, 3) := by decide +kernel
theorem d_M_learn_5 : decode b_M_learn 5 = .ok (.iload_n 1, 1) := by decide +kernel
theorem d_M_learn_6 : decode b_M_learn 6 = .ok (.ldc 52, 2) := by decide +kernel
theorem d_M_learn_8 : decode b_M_learn 8 = .ok (.if_icmp .le 5, 3) := by decide +kernel
theorem d_M_learn_11 : decode b_M_learn 11 = .ok (.iconst (-1), 1) := by decide +kernel
theorem d_M_learn_12 : decode b_M_learn 12 = .ok (.ireturn, 1) := by decide +kernel
theorem d_M_learn_13 : decode b_M_learn 13 = .ok (.aload_n 0, 1) := by decide +kernel
theorem d_M_learn_14 : decode b_M_learn 14 = .ok (.getfield 29, 3) := by decide +kernel
theorem d_M_learn_17 : decode b_M_learn 17 = .ok (.ifCond .eq 12, 3) := by decide +kernel
theorem d_M_learn_20 : decode b_M_learn 20 = .ok (.aload_n 0, 1) := by decide +kernel
theorem d_M_learn_21 : decode b_M_learn 21 = .ok (.getfield 29, 3) := by decide +kernel
theorem d_M_learn_24 : decode b_M_learn 24 = .ok (.bipush 8, 2) := by decide +kernel
theorem d_M_learn_26 : decode b_M_learn 26 = .ok (.if_icmp .le 6, 3) := by decide +kernel
theorem d_M_learn_29 : decode b_M_learn 29 = .ok (.bipush (-2), 2) := by decide +kernel
theorem d_M_learn_31 : decode b_M_learn 31 = .ok (.ireturn, 1) := by decide +kernel
theorem d_M_learn_32 : decode b_M_learn 32 = .ok (.aload_n 0, 1) := by decide +kernel
theorem d_M_learn_33 : decode b_M_learn 33 = .ok (.invokevirtual 53, 3) := by decide +kernel
theorem d_M_learn_36 : decode b_M_learn 36 = .ok (.istore_n 2, 1) := by decide +kernel
theorem d_M_learn_37 : decode b_M_learn 37 = .ok (.iload_n 2, 1) := by decide +kernel
theorem d_M_learn_38 : decode b_M_learn 38 = .ok (.ifCond .lt 37, 3) := by decide +kernel
theorem d_M_learn_41 : decode b_M_learn 41 = .ok (.aload_n 0, 1) := by decide +kernel
theorem d_M_learn_42 : decode b_M_learn 42 = .ok (.getfield 19, 3) := by decide +kernel
theorem d_M_learn_45 : decode b_M_learn 45 = .ok (.iload_n 2, 1) := by decide +kernel
theorem d_M_learn_46 : decode b_M_learn 46 = .ok (.aload_n 0, 1) := by decide +kernel
theorem d_M_learn_47 : decode b_M_learn 47 = .ok (.getfield 19, 3) := by decide +kernel
theorem d_M_learn_50 : decode b_M_learn 50 = .ok (.iload_n 2, 1) := by decide +kernel
theorem d_M_learn_51 : decode b_M_learn 51 = .ok (.iaload, 1) := by decide +kernel
theorem d_M_learn_52 : decode b_M_learn 52 = .ok (.iload_n 1, 1) := by decide +kernel
theorem d_M_learn_53 : decode b_M_learn 53 = .ok (.iadd, 1) := by decide +kernel
theorem d_M_learn_54 : decode b_M_learn 54 = .ok (.ldc 52, 2) := by decide +kernel
theorem d_M_learn_56 : decode b_M_learn 56 = .ok (.if_icmp .le 8, 3) := by decide +kernel
theorem d_M_learn_59 : decode b_M_learn 59 = .ok (.ldc 52, 2) := by decide +kernel
theorem d_M_learn_61 : decode b_M_learn 61 = .ok (.goto 11, 3) := by decide +kernel
theorem d_M_learn_64 : decode b_M_learn 64 = .ok (.aload_n 0, 1) := by decide +kernel
theorem d_M_learn_65 : decode b_M_learn 65 = .ok (.getfield 19, 3) := by decide +kernel
theorem d_M_learn_68 : decode b_M_learn 68 = .ok (.iload_n 2, 1) := by decide +kernel
theorem d_M_learn_69 : decode b_M_learn 69 = .ok (.iaload, 1) := by decide +kernel
theorem d_M_learn_70 : decode b_M_learn 70 = .ok (.iload_n 1, 1) := by decide +kernel
theorem d_M_learn_71 : decode b_M_learn 71 = .ok (.iadd, 1) := by decide +kernel
theorem d_M_learn_72 : decode b_M_learn 72 = .ok (.iastore, 1) := by decide +kernel
theorem d_M_learn_73 : decode b_M_learn 73 = .ok (.iconst 1, 1) := by decide +kernel
theorem d_M_learn_74 : decode b_M_learn 74 = .ok (.ireturn, 1) := by decide +kernel
theorem d_M_learn_75 : decode b_M_learn 75 = .ok (.aload_n 0, 1) := by decide +kernel
theorem d_M_learn_76 : decode b_M_learn 76 = .ok (.getfield 37, 3) := by decide +kernel
theorem d_M_learn_79 : decode b_M_learn 79 = .ok (.bipush 24, 2) := by decide +kernel
theorem d_M_learn_81 : decode b_M_learn 81 = .ok (.if_icmp .ne 6, 3) := by decide +kernel
theorem d_M_learn_84 : decode b_M_learn 84 = .ok (.bipush (-3), 2) := by decide +kernel
theorem d_M_learn_86 : decode b_M_learn 86 = .ok (.ireturn, 1) := by decide +kernel
theorem d_M_learn_87 : decode b_M_learn 87 = .ok (.iconst 0, 1) := by decide +kernel
theorem d_M_learn_88 : decode b_M_learn 88 = .ok (.istore_n 3, 1) := by decide +kernel
theorem d_M_learn_89 : decode b_M_learn 89 = .ok (.iload_n 3, 1) := by decide +kernel
theorem d_M_learn_90 : decode b_M_learn 90 = .ok (.aload_n 0, 1) := by decide +kernel
theorem d_M_learn_91 : decode b_M_learn 91 = .ok (.getfield 29, 3) := by decide +kernel
theorem d_M_learn_94 : decode b_M_learn 94 = .ok (.if_icmp .ge 29, 3) := by decide +kernel
theorem d_M_learn_97 : decode b_M_learn 97 = .ok (.aload_n 0, 1) := by decide +kernel
theorem d_M_learn_98 : decode b_M_learn 98 = .ok (.getfield 13, 3) := by decide +kernel
theorem d_M_learn_101 : decode b_M_learn 101 = .ok (.bipush 8, 2) := by decide +kernel
theorem d_M_learn_103 : decode b_M_learn 103 = .ok (.aload_n 0, 1) := by decide +kernel
theorem d_M_learn_104 : decode b_M_learn 104 = .ok (.getfield 37, 3) := by decide +kernel
theorem d_M_learn_107 : decode b_M_learn 107 = .ok (.imul, 1) := by decide +kernel
theorem d_M_learn_108 : decode b_M_learn 108 = .ok (.iload_n 3, 1) := by decide +kernel
theorem d_M_learn_109 : decode b_M_learn 109 = .ok (.iadd, 1) := by decide +kernel
theorem d_M_learn_110 : decode b_M_learn 110 = .ok (.aload_n 0, 1) := by decide +kernel
theorem d_M_learn_111 : decode b_M_learn 111 = .ok (.getfield 7, 3) := by decide +kernel
theorem d_M_learn_114 : decode b_M_learn 114 = .ok (.iload_n 3, 1) := by decide +kernel
theorem d_M_learn_115 : decode b_M_learn 115 = .ok (.iaload, 1) := by decide +kernel
theorem d_M_learn_116 : decode b_M_learn 116 = .ok (.iastore, 1) := by decide +kernel
theorem d_M_learn_117 : decode b_M_learn 117 = .ok (.iinc 3 1, 3) := by decide +kernel
theorem d_M_learn_120 : decode b_M_learn 120 = .ok (.goto (-31), 3) := by decide +kernel
theorem d_M_learn_123 : decode b_M_learn 123 = .ok (.aload_n 0, 1) := by decide +kernel
theorem d_M_learn_124 : decode b_M_learn 124 = .ok (.getfield 16, 3) := by decide +kernel
theorem d_M_learn_127 : decode b_M_learn 127 = .ok (.aload_n 0, 1) := by decide +kernel
theorem d_M_learn_128 : decode b_M_learn 128 = .ok (.getfield 37, 3) := by decide +kernel
theorem d_M_learn_131 : decode b_M_learn 131 = .ok (.aload_n 0, 1) := by decide +kernel
theorem d_M_learn_132 : decode b_M_learn 132 = .ok (.getfield 29, 3) := by decide +kernel
theorem d_M_learn_135 : decode b_M_learn 135 = .ok (.iastore, 1) := by decide +kernel
theorem d_M_learn_136 : decode b_M_learn 136 = .ok (.aload_n 0, 1) := by decide +kernel
theorem d_M_learn_137 : decode b_M_learn 137 = .ok (.getfield 19, 3) := by decide +kernel
theorem d_M_learn_140 : decode b_M_learn 140 = .ok (.aload_n 0, 1) := by decide +kernel
theorem d_M_learn_141 : decode b_M_learn 141 = .ok (.getfield 37, 3) := by decide +kernel
theorem d_M_learn_144 : decode b_M_learn 144 = .ok (.iload_n 1, 1) := by decide +kernel
theorem d_M_learn_145 : decode b_M_learn 145 = .ok (.iastore, 1) := by decide +kernel
theorem d_M_learn_146 : decode b_M_learn 146 = .ok (.aload_n 0, 1) := by decide +kernel
theorem d_M_learn_147 : decode b_M_learn 147 = .ok (.dup, 1) := by decide +kernel
theorem d_M_learn_148 : decode b_M_learn 148 = .ok (.getfield 37, 3) := by decide +kernel
theorem d_M_learn_151 : decode b_M_learn 151 = .ok (.iconst 1, 1) := by decide +kernel
theorem d_M_learn_152 : decode b_M_learn 152 = .ok (.iadd, 1) := by decide +kernel
theorem d_M_learn_153 : decode b_M_learn 153 = .ok (.putfield 37, 3) := by decide +kernel
theorem d_M_learn_156 : decode b_M_learn 156 = .ok (.iconst 0, 1) := by decide +kernel
theorem d_M_learn_157 : decode b_M_learn 157 = .ok (.ireturn, 1) := by decide +kernel
theorem d_M_forget_0 : decode b_M_forget 0 = .ok (.aload_n 0, 1) := by decide +kernel
theorem d_M_forget_1 : decode b_M_forget 1 = .ok (.iload_n 1, 1) := by decide +kernel
theorem d_M_forget_2 : decode b_M_forget 2 = .ok (.invokevirtual 57, 3) := by decide +kernel
theorem d_M_forget_5 : decode b_M_forget 5 = .ok (.istore_n 2, 1) := by decide +kernel
theorem d_M_forget_6 : decode b_M_forget 6 = .ok (.iload_n 2, 1) := by decide +kernel
theorem d_M_forget_7 : decode b_M_forget 7 = .ok (.ifCond .ge 5, 3) := by decide +kernel
theorem d_M_forget_10 : decode b_M_forget 10 = .ok (.iconst 0, 1) := by decide +kernel
theorem d_M_forget_11 : decode b_M_forget 11 = .ok (.ireturn, 1) := by decide +kernel
theorem d_M_forget_12 : decode b_M_forget 12 = .ok (.aload_n 0, 1) := by decide +kernel
theorem d_M_forget_13 : decode b_M_forget 13 = .ok (.dup, 1) := by decide +kernel
theorem d_M_forget_14 : decode b_M_forget 14 = .ok (.getfield 37, 3) := by decide +kernel
theorem d_M_forget_17 : decode b_M_forget 17 = .ok (.iconst 1, 1) := by decide +kernel
theorem d_M_forget_18 : decode b_M_forget 18 = .ok (.isub, 1) := by decide +kernel
theorem d_M_forget_19 : decode b_M_forget 19 = .ok (.putfield 37, 3) := by decide +kernel
theorem d_M_forget_22 : decode b_M_forget 22 = .ok (.iconst 0, 1) := by decide +kernel
theorem d_M_forget_23 : decode b_M_forget 23 = .ok (.istore_n 3, 1) := by decide +kernel
theorem d_M_forget_24 : decode b_M_forget 24 = .ok (.iload_n 3, 1) := by decide +kernel
theorem d_M_forget_25 : decode b_M_forget 25 = .ok (.bipush 8, 2) := by decide +kernel
theorem d_M_forget_27 : decode b_M_forget 27 = .ok (.if_icmp .ge 34, 3) := by decide +kernel
theorem d_M_forget_30 : decode b_M_forget 30 = .ok (.aload_n 0, 1) := by decide +kernel
theorem d_M_forget_31 : decode b_M_forget 31 = .ok (.getfield 13, 3) := by decide +kernel
theorem d_M_forget_34 : decode b_M_forget 34 = .ok (.bipush 8, 2) := by decide +kernel
theorem d_M_forget_36 : decode b_M_forget 36 = .ok (.iload_n 2, 1) := by decide +kernel
theorem d_M_forget_37 : decode b_M_forget 37 = .ok (.imul, 1) := by decide +kernel
theorem d_M_forget_38 : decode b_M_forget 38 = .ok (.iload_n 3, 1) := by decide +kernel
theorem d_M_forget_39 : decode b_M_forget 39 = .ok (.iadd, 1) := by decide +kernel
theorem d_M_forget_40 : decode b_M_forget 40 = .ok (.aload_n 0, 1) := by decide +kernel
theorem d_M_forget_41 : decode b_M_forget 41 = .ok (.getfield 13, 3) := by decide +kernel
theorem d_M_forget_44 : decode b_M_forget 44 = .ok (.bipush 8, 2) := by decide +kernel
theorem d_M_forget_46 : decode b_M_forget 46 = .ok (.aload_n 0, 1) := by decide +kernel
theorem d_M_forget_47 : decode b_M_forget 47 = .ok (.getfield 37, 3) := by decide +kernel
theorem d_M_forget_50 : decode b_M_forget 50 = .ok (.imul, 1) := by decide +kernel
theorem d_M_forget_51 : decode b_M_forget 51 = .ok (.iload_n 3, 1) := by decide +kernel
theorem d_M_forget_52 : decode b_M_forget 52 = .ok (.iadd, 1) := by decide +kernel
theorem d_M_forget_53 : decode b_M_forget 53 = .ok (.iaload, 1) := by decide +kernel
theorem d_M_forget_54 : decode b_M_forget 54 = .ok (.iastore, 1) := by decide +kernel
theorem d_M_forget_55 : decode b_M_forget 55 = .ok (.iinc 3 1, 3) := by decide +kernel
theorem d_M_forget_58 : decode b_M_forget 58 = .ok (.goto (-34), 3) := by decide +kernel
theorem d_M_forget_61 : decode b_M_forget 61 = .ok (.aload_n 0, 1) := by decide +kernel
theorem d_M_forget_62 : decode b_M_forget 62 = .ok (.getfield 16, 3) := by decide +kernel
theorem d_M_forget_65 : decode b_M_forget 65 = .ok (.iload_n 2, 1) := by decide +kernel
theorem d_M_forget_66 : decode b_M_forget 66 = .ok (.aload_n 0, 1) := by decide +kernel
theorem d_M_forget_67 : decode b_M_forget 67 = .ok (.getfield 16, 3) := by decide +kernel
theorem d_M_forget_70 : decode b_M_forget 70 = .ok (.aload_n 0, 1) := by decide +kernel
theorem d_M_forget_71 : decode b_M_forget 71 = .ok (.getfield 37, 3) := by decide +kernel
theorem d_M_forget_74 : decode b_M_forget 74 = .ok (.iaload, 1) := by decide +kernel
theorem d_M_forget_75 : decode b_M_forget 75 = .ok (.iastore, 1) := by decide +kernel
theorem d_M_forget_76 : decode b_M_forget 76 = .ok (.aload_n 0, 1) := by decide +kernel
theorem d_M_forget_77 : decode b_M_forget 77 = .ok (.getfield 19, 3) := by decide +kernel
theorem d_M_forget_80 : decode b_M_forget 80 = .ok (.iload_n 2, 1) := by decide +kernel
theorem d_M_forget_81 : decode b_M_forget 81 = .ok (.aload_n 0, 1) := by decide +kernel
theorem d_M_forget_82 : decode b_M_forget 82 = .ok (.getfield 19, 3) := by decide +kernel
theorem d_M_forget_85 : decode b_M_forget 85 = .ok (.aload_n 0, 1) := by decide +kernel
theorem d_M_forget_86 : decode b_M_forget 86 = .ok (.getfield 37, 3) := by decide +kernel
theorem d_M_forget_89 : decode b_M_forget 89 = .ok (.iaload, 1) := by decide +kernel
theorem d_M_forget_90 : decode b_M_forget 90 = .ok (.iastore, 1) := by decide +kernel
theorem d_M_forget_91 : decode b_M_forget 91 = .ok (.iconst 1, 1) := by decide +kernel
theorem d_M_forget_92 : decode b_M_forget 92 = .ok (.ireturn, 1) := by decide +kernel
theorem d_M_words_0 : decode b_M_words 0 = .ok (.aload_n 0, 1) := by decide +kernel
theorem d_M_words_1 : decode b_M_words 1 = .ok (.getfield 37, 3) := by decide +kernel
theorem d_M_words_4 : decode b_M_words 4 = .ok (.ireturn, 1) := by decide +kernel
theorem d_M_letter_0 : decode b_M_letter 0 = .ok (.aload_n 0, 1) := by decide +kernel
theorem d_M_letter_1 : decode b_M_letter 1 = .ok (.iload_n 1, 1) := by decide +kernel
theorem d_M_letter_2 : decode b_M_letter 2 = .ok (.invokevirtual 57, 3) := by decide +kernel
theorem d_M_letter_5 : decode b_M_letter 5 = .ok (.istore_n 3, 1) := by decide +kernel
theorem d_M_letter_6 : decode b_M_letter 6 = .ok (.iload_n 3, 1) := by decide +kernel
theorem d_M_letter_7 : decode b_M_letter 7 = .ok (.ifCond .lt 17, 3) := by decide +kernel
theorem d_M_letter_10 : decode b_M_letter 10 = .ok (.iload_n 2, 1) := by decide +kernel
theorem d_M_letter_11 : decode b_M_letter 11 = .ok (.ifCond .lt 13, 3) := by decide +kernel
theorem d_M_letter_14 : decode b_M_letter 14 = .ok (.iload_n 2, 1) := by decide +kernel
theorem d_M_letter_15 : decode b_M_letter 15 = .ok (.aload_n 0, 1) := by decide +kernel
theorem d_M_letter_16 : decode b_M_letter 16 = .ok (.getfield 16, 3) := by decide +kernel
theorem d_M_letter_19 : decode b_M_letter 19 = .ok (.iload_n 3, 1) := by decide +kernel
theorem d_M_letter_20 : decode b_M_letter 20 = .ok (.iaload, 1) := by decide +kernel
theorem d_M_letter_21 : decode b_M_letter 21 = .ok (.if_icmp .lt 7, 3) := by decide +kernel
theorem d_M_letter_24 : decode b_M_letter 24 = .ok (.iconst (-1), 1) := by decide +kernel
theorem d_M_letter_25 : decode b_M_letter 25 = .ok (.goto 14, 3) := by decide +kernel
theorem d_M_letter_28 : decode b_M_letter 28 = .ok (.aload_n 0, 1) := by decide +kernel
theorem d_M_letter_29 : decode b_M_letter 29 = .ok (.getfield 13, 3) := by decide +kernel
theorem d_M_letter_32 : decode b_M_letter 32 = .ok (.bipush 8, 2) := by decide +kernel
theorem d_M_letter_34 : decode b_M_letter 34 = .ok (.iload_n 3, 1) := by decide +kernel
theorem d_M_letter_35 : decode b_M_letter 35 = .ok (.imul, 1) := by decide +kernel
theorem d_M_letter_36 : decode b_M_letter 36 = .ok (.iload_n 2, 1) := by decide +kernel
theorem d_M_letter_37 : decode b_M_letter 37 = .ok (.iadd, 1) := by decide +kernel
theorem d_M_letter_38 : decode b_M_letter 38 = .ok (.iaload, 1) := by decide +kernel
theorem d_M_letter_39 : decode b_M_letter 39 = .ok (.ireturn, 1) := by decide +kernel
theorem d_M_count_0 : decode b_M_count 0 = .ok (.aload_n 0, 1) := by decide +kernel
theorem d_M_count_1 : decode b_M_count 1 = .ok (.iload_n 1, 1) := by decide +kernel
theorem d_M_count_2 : decode b_M_count 2 = .ok (.invokevirtual 57, 3) := by decide +kernel
theorem d_M_count_5 : decode b_M_count 5 = .ok (.istore_n 2, 1) := by decide +kernel
theorem d_M_count_6 : decode b_M_count 6 = .ok (.iload_n 2, 1) := by decide +kernel
theorem d_M_count_7 : decode b_M_count 7 = .ok (.ifCond .ge 7, 3) := by decide +kernel
theorem d_M_count_10 : decode b_M_count 10 = .ok (.iconst 0, 1) := by decide +kernel
theorem d_M_count_11 : decode b_M_count 11 = .ok (.goto 9, 3) := by decide +kernel
theorem d_M_count_14 : decode b_M_count 14 = .ok (.aload_n 0, 1) := by decide +kernel
theorem d_M_count_15 : decode b_M_count 15 = .ok (.getfield 19, 3) := by decide +kernel
theorem d_M_count_18 : decode b_M_count 18 = .ok (.iload_n 2, 1) := by decide +kernel
theorem d_M_count_19 : decode b_M_count 19 = .ok (.iaload, 1) := by decide +kernel
theorem d_M_count_20 : decode b_M_count 20 = .ok (.ireturn, 1) := by decide +kernel
theorem d_M_rank_0 : decode b_M_rank 0 = .ok (.aload_n 0, 1) := by decide +kernel
theorem d_M_rank_1 : decode b_M_rank 1 = .ok (.invokevirtual 53, 3) := by decide +kernel
theorem d_M_rank_4 : decode b_M_rank 4 = .ok (.istore_n 1, 1) := by decide +kernel
theorem d_M_rank_5 : decode b_M_rank 5 = .ok (.iload_n 1, 1) := by decide +kernel
theorem d_M_rank_6 : decode b_M_rank 6 = .ok (.ifCond .ge 7, 3) := by decide +kernel
theorem d_M_rank_9 : decode b_M_rank 9 = .ok (.iconst (-1), 1) := by decide +kernel
theorem d_M_rank_10 : decode b_M_rank 10 = .ok (.goto 8, 3) := by decide +kernel
theorem d_M_rank_13 : decode b_M_rank 13 = .ok (.aload_n 0, 1) := by decide +kernel
theorem d_M_rank_14 : decode b_M_rank 14 = .ok (.iload_n 1, 1) := by decide +kernel
theorem d_M_rank_15 : decode b_M_rank 15 = .ok (.invokevirtual 44, 3) := by decide +kernel
theorem d_M_rank_18 : decode b_M_rank 18 = .ok (.ireturn, 1) := by decide +kernel
theorem d_M_reach_0 : decode b_M_reach 0 = .ok (.aload_n 0, 1) := by decide +kernel
theorem d_M_reach_1 : decode b_M_reach 1 = .ok (.getfield 22, 3) := by decide +kernel
theorem d_M_reach_4 : decode b_M_reach 4 = .ok (.iload_n 1, 1) := by decide +kernel
theorem d_M_reach_5 : decode b_M_reach 5 = .ok (.iaload, 1) := by decide +kernel
theorem d_M_reach_6 : decode b_M_reach 6 = .ok (.ifCond .ge 10, 3) := by decide +kernel
theorem d_M_reach_9 : decode b_M_reach 9 = .ok (.aload_n 0, 1) := by decide +kernel
theorem d_M_reach_10 : decode b_M_reach 10 = .ok (.getfield 22, 3) := by decide +kernel
theorem d_M_reach_13 : decode b_M_reach 13 = .ok (.iload_n 1, 1) := by decide +kernel
theorem d_M_reach_14 : decode b_M_reach 14 = .ok (.iload_n 2, 1) := by decide +kernel
theorem d_M_reach_15 : decode b_M_reach 15 = .ok (.iastore, 1) := by decide +kernel
theorem d_M_reach_16 : decode b_M_reach 16 = .ok (.return_, 1) := by decide +kernel
theorem d_M_far_0 : decode b_M_far 0 = .ok (.iconst 0, 1) := by decide +kernel
theorem d_M_far_1 : decode b_M_far 1 = .ok (.istore 4, 2) := by decide +kernel
theorem d_M_far_3 : decode b_M_far 3 = .ok (.iload 4, 2) := by decide +kernel
theorem d_M_far_5 : decode b_M_far 5 = .ok (.bipush 99, 2) := by decide +kernel
theorem d_M_far_7 : decode b_M_far 7 = .ok (.if_icmp .ge 17, 3) := by decide +kernel
theorem d_M_far_10 : decode b_M_far 10 = .ok (.aload_n 0, 1) := by decide +kernel
theorem d_M_far_11 : decode b_M_far 11 = .ok (.getfield 22, 3) := by decide +kernel
theorem d_M_far_14 : decode b_M_far 14 = .ok (.iload 4, 2) := by decide +kernel
theorem d_M_far_16 : decode b_M_far 16 = .ok (.iconst (-1), 1) := by decide +kernel
theorem d_M_far_17 : decode b_M_far 17 = .ok (.iastore, 1) := by decide +kernel
theorem d_M_far_18 : decode b_M_far 18 = .ok (.iinc 4 1, 3) := by decide +kernel
theorem d_M_far_21 : decode b_M_far 21 = .ok (.goto (-18), 3) := by decide +kernel
theorem d_M_far_24 : decode b_M_far 24 = .ok (.aload_n 0, 1) := by decide +kernel
theorem d_M_far_25 : decode b_M_far 25 = .ok (.getfield 22, 3) := by decide +kernel
theorem d_M_far_28 : decode b_M_far 28 = .ok (.bipush 9, 2) := by decide +kernel
theorem d_M_far_30 : decode b_M_far 30 = .ok (.iload_n 2, 1) := by decide +kernel
theorem d_M_far_31 : decode b_M_far 31 = .ok (.imul, 1) := by decide +kernel
theorem d_M_far_32 : decode b_M_far 32 = .ok (.iload_n 3, 1) := by decide +kernel
theorem d_M_far_33 : decode b_M_far 33 = .ok (.iadd, 1) := by decide +kernel
theorem d_M_far_34 : decode b_M_far 34 = .ok (.iconst 0, 1) := by decide +kernel
theorem d_M_far_35 : decode b_M_far 35 = .ok (.iastore, 1) := by decide +kernel
theorem d_M_far_36 : decode b_M_far 36 = .ok (.iconst 0, 1) := by decide +kernel
theorem d_M_far_37 : decode b_M_far 37 = .ok (.istore 4, 2) := by decide +kernel
theorem d_M_far_39 : decode b_M_far 39 = .ok (.iload 4, 2) := by decide +kernel
theorem d_M_far_41 : decode b_M_far 41 = .ok (.bipush 18, 2) := by decide +kernel
theorem d_M_far_43 : decode b_M_far 43 = .ok (.if_icmp .gt 260, 3) := by decide +kernel
theorem d_M_far_46 : decode b_M_far 46 = .ok (.iconst 0, 1) := by decide +kernel
theorem d_M_far_47 : decode b_M_far 47 = .ok (.istore 5, 2) := by decide +kernel
theorem d_M_far_49 : decode b_M_far 49 = .ok (.iload 5, 2) := by decide +kernel
theorem d_M_far_51 : decode b_M_far 51 = .ok (.bipush 99, 2) := by decide +kernel
theorem d_M_far_53 : decode b_M_far 53 = .ok (.if_icmp .ge 88, 3) := by decide +kernel
theorem d_M_far_56 : decode b_M_far 56 = .ok (.iload 5, 2) := by decide +kernel
theorem d_M_far_58 : decode b_M_far 58 = .ok (.bipush 9, 2) := by decide +kernel
theorem d_M_far_60 : decode b_M_far 60 = .ok (.idiv, 1) := by decide +kernel
theorem d_M_far_61 : decode b_M_far 61 = .ok (.istore 6, 2) := by decide +kernel
theorem d_M_far_63 : decode b_M_far 63 = .ok (.iload 5, 2) := by decide +kernel
theorem d_M_far_65 : decode b_M_far 65 = .ok (.bipush 9, 2) := by decide +kernel
theorem d_M_far_67 : decode b_M_far 67 = .ok (.irem, 1) := by decide +kernel
theorem d_M_far_68 : decode b_M_far 68 = .ok (.istore 7, 2) := by decide +kernel
theorem d_M_far_70 : decode b_M_far 70 = .ok (.aload_n 0, 1) := by decide +kernel
theorem d_M_far_71 : decode b_M_far 71 = .ok (.getfield 22, 3) := by decide +kernel
theorem d_M_far_74 : decode b_M_far 74 = .ok (.iload 5, 2) := by decide +kernel
theorem d_M_far_76 : decode b_M_far 76 = .ok (.iaload, 1) := by decide +kernel
theorem d_M_far_77 : decode b_M_far 77 = .ok (.iload 4, 2) := by decide +kernel
theorem d_M_far_79 : decode b_M_far 79 = .ok (.if_icmp .ne 56, 3) := by decide +kernel
theorem d_M_far_82 : decode b_M_far 82 = .ok (.iload 6, 2) := by decide +kernel
theorem d_M_far_84 : decode b_M_far 84 = .ok (.aload_n 0, 1) := by decide +kernel
theorem d_M_far_85 : decode b_M_far 85 = .ok (.getfield 29, 3) := by decide +kernel
theorem d_M_far_88 : decode b_M_far 88 = .ok (.if_icmp .ge 47, 3) := by decide +kernel
theorem d_M_far_91 : decode b_M_far 91 = .ok (.iload 7, 2) := by decide +kernel
theorem d_M_far_93 : decode b_M_far 93 = .ok (.aload_n 0, 1) := by decide +kernel
theorem d_M_far_94 : decode b_M_far 94 = .ok (.getfield 16, 3) := by decide +kernel
theorem d_M_far_97 : decode b_M_far 97 = .ok (.iload_n 1, 1) := by decide +kernel
theorem d_M_far_98 : decode b_M_far 98 = .ok (.iaload, 1) := by decide +kernel
theorem d_M_far_99 : decode b_M_far 99 = .ok (.if_icmp .ge 36, 3) := by decide +kernel
theorem d_M_far_102 : decode b_M_far 102 = .ok (.aload_n 0, 1) := by decide +kernel
theorem d_M_far_103 : decode b_M_far 103 = .ok (.getfield 7, 3) := by decide +kernel
theorem d_M_far_106 : decode b_M_far 106 = .ok (.iload 6, 2) := by decide +kernel
theorem d_M_far_108 : decode b_M_far 108 = .ok (.iaload, 1) := by decide +kernel
theorem d_M_far_109 : decode b_M_far 109 = .ok (.aload_n 0, 1) := by decide +kernel
theorem d_M_far_110 : decode b_M_far 110 = .ok (.getfield 13, 3) := by decide +kernel
theorem d_M_far_113 : decode b_M_far 113 = .ok (.bipush 8, 2) := by decide +kernel
theorem d_M_far_115 : decode b_M_far 115 = .ok (.iload_n 1, 1) := by decide +kernel
theorem d_M_far_116 : decode b_M_far 116 = .ok (.imul, 1) := by decide +kernel
theorem d_M_far_117 : decode b_M_far 117 = .ok (.iload 7, 2) := by decide +kernel
theorem d_M_far_119 : decode b_M_far 119 = .ok (.iadd, 1) := by decide +kernel
theorem d_M_far_120 : decode b_M_far 120 = .ok (.iaload, 1) := by decide +kernel
theorem d_M_far_121 : decode b_M_far 121 = .ok (.if_icmp .ne 14, 3) := by decide +kernel
theorem d_M_far_124 : decode b_M_far 124 = .ok (.aload_n 0, 1) := by decide +kernel
theorem d_M_far_125 : decode b_M_far 125 = .ok (.iload 5, 2) := by decide +kernel
theorem d_M_far_127 : decode b_M_far 127 = .ok (.bipush 10, 2) := by decide +kernel
theorem d_M_far_129 : decode b_M_far 129 = .ok (.iadd, 1) := by decide +kernel
theorem d_M_far_130 : decode b_M_far 130 = .ok (.iload 4, 2) := by decide +kernel
theorem d_M_far_132 : decode b_M_far 132 = .ok (.invokevirtual 60, 3) := by decide +kernel
theorem d_M_far_135 : decode b_M_far 135 = .ok (.iinc 5 1, 3) := by decide +kernel
theorem d_M_far_138 : decode b_M_far 138 = .ok (.goto (-89), 3) := by decide +kernel
theorem d_M_far_141 : decode b_M_far 141 = .ok (.aload_n 0, 1) := by decide +kernel
theorem d_M_far_142 : decode b_M_far 142 = .ok (.getfield 22, 3) := by decide +kernel
theorem d_M_far_145 : decode b_M_far 145 = .ok (.bipush 9, 2) := by decide +kernel
theorem d_M_far_147 : decode b_M_far 147 = .ok (.aload_n 0, 1) := by decide +kernel
theorem d_M_far_148 : decode b_M_far 148 = .ok (.getfield 29, 3) := by decide +kernel
theorem d_M_far_151 : decode b_M_far 151 = .ok (.imul, 1) := by decide +kernel
theorem d_M_far_152 : decode b_M_far 152 = .ok (.aload_n 0, 1) := by decide +kernel
theorem d_M_far_153 : decode b_M_far 153 = .ok (.getfield 16, 3) := by decide +kernel
theorem d_M_far_156 : decode b_M_far 156 = .ok (.iload_n 1, 1) := by decide +kernel
theorem d_M_far_157 : decode b_M_far 157 = .ok (.iaload, 1) := by decide +kernel
theorem d_M_far_158 : decode b_M_far 158 = .ok (.iadd, 1) := by decide +kernel
theorem d_M_far_159 : decode b_M_far 159 = .ok (.iaload, 1) := by decide +kernel
theorem d_M_far_160 : decode b_M_far 160 = .ok (.iload 4, 2) := by decide +kernel
theorem d_M_far_162 : decode b_M_far 162 = .ok (.if_icmp .ne 6, 3) := by decide +kernel
theorem d_M_far_165 : decode b_M_far 165 = .ok (.iload 4, 2) := by decide +kernel
theorem d_M_far_167 : decode b_M_far 167 = .ok (.ireturn, 1) := by decide +kernel
theorem d_M_far_168 : decode b_M_far 168 = .ok (.iconst 0, 1) := by decide +kernel
theorem d_M_far_169 : decode b_M_far 169 = .ok (.istore 5, 2) := by decide +kernel
theorem d_M_far_171 : decode b_M_far 171 = .ok (.iload 5, 2) := by decide +kernel
theorem d_M_far_173 : decode b_M_far 173 = .ok (.bipush 99, 2) := by decide +kernel
theorem d_M_far_175 : decode b_M_far 175 = .ok (.if_icmp .ge 122, 3) := by decide +kernel
theorem d_M_far_178 : decode b_M_far 178 = .ok (.aload_n 0, 1) := by decide +kernel
theorem d_M_far_179 : decode b_M_far 179 = .ok (.getfield 22, 3) := by decide +kernel
theorem d_M_far_182 : decode b_M_far 182 = .ok (.iload 5, 2) := by decide +kernel
theorem d_M_far_184 : decode b_M_far 184 = .ok (.iaload, 1) := by decide +kernel
theorem d_M_far_185 : decode b_M_far 185 = .ok (.iload 4, 2) := by decide +kernel
theorem d_M_far_187 : decode b_M_far 187 = .ok (.if_icmp .eq 6, 3) := by decide +kernel
theorem d_M_far_190 : decode b_M_far 190 = .ok (.goto 101, 3) := by decide +kernel
theorem d_M_far_193 : decode b_M_far 193 = .ok (.iload 5, 2) := by decide +kernel
theorem d_M_far_195 : decode b_M_far 195 = .ok (.bipush 9, 2) := by decide +kernel
theorem d_M_far_197 : decode b_M_far 197 = .ok (.idiv, 1) := by decide +kernel
theorem d_M_far_198 : decode b_M_far 198 = .ok (.aload_n 0, 1) := by decide +kernel
theorem d_M_far_199 : decode b_M_far 199 = .ok (.getfield 29, 3) := by decide +kernel
theorem d_M_far_202 : decode b_M_far 202 = .ok (.if_icmp .ge 7, 3) := by decide +kernel
theorem d_M_far_205 : decode b_M_far 205 = .ok (.iconst 1, 1) := by decide +kernel
theorem d_M_far_206 : decode b_M_far 206 = .ok (.goto 4, 3) := by decide +kernel
theorem d_M_far_209 : decode b_M_far 209 = .ok (.iconst 0, 1) := by decide +kernel
theorem d_M_far_210 : decode b_M_far 210 = .ok (.istore 6, 2) := by decide +kernel
theorem d_M_far_212 : decode b_M_far 212 = .ok (.iload 5, 2) := by decide +kernel
theorem d_M_far_214 : decode b_M_far 214 = .ok (.bipush 9, 2) := by decide +kernel
theorem d_M_far_216 : decode b_M_far 216 = .ok (.irem, 1) := by decide +kernel
theorem d_M_far_217 : decode b_M_far 217 = .ok (.aload_n 0, 1) := by decide +kernel
theorem d_M_far_218 : decode b_M_far 218 = .ok (.getfield 16, 3) := by decide +kernel
theorem d_M_far_221 : decode b_M_far 221 = .ok (.iload_n 1, 1) := by decide +kernel
theorem d_M_far_222 : decode b_M_far 222 = .ok (.iaload, 1) := by decide +kernel
theorem d_M_far_223 : decode b_M_far 223 = .ok (.if_icmp .ge 7, 3) := by decide +kernel
theorem d_M_far_226 : decode b_M_far 226 = .ok (.iconst 1, 1) := by decide +kernel
theorem d_M_far_227 : decode b_M_far 227 = .ok (.goto 4, 3) := by decide +kernel
theorem d_M_far_230 : decode b_M_far 230 = .ok (.iconst 0, 1) := by decide +kernel
theorem d_M_far_231 : decode b_M_far 231 = .ok (.istore 7, 2) := by decide +kernel
theorem d_M_far_233 : decode b_M_far 233 = .ok (.iload 6, 2) := by decide +kernel
theorem d_M_far_235 : decode b_M_far 235 = .ok (.ifCond .eq 21, 3) := by decide +kernel
theorem d_M_far_238 : decode b_M_far 238 = .ok (.iload 7, 2) := by decide +kernel
theorem d_M_far_240 : decode b_M_far 240 = .ok (.ifCond .eq 16, 3) := by decide +kernel
theorem d_M_far_243 : decode b_M_far 243 = .ok (.aload_n 0, 1) := by decide +kernel
theorem d_M_far_244 : decode b_M_far 244 = .ok (.iload 5, 2) := by decide +kernel
theorem d_M_far_246 : decode b_M_far 246 = .ok (.bipush 10, 2) := by decide +kernel
theorem d_M_far_248 : decode b_M_far 248 = .ok (.iadd, 1) := by decide +kernel
theorem d_M_far_249 : decode b_M_far 249 = .ok (.iload 4, 2) := by decide +kernel
theorem d_M_far_251 : decode b_M_far 251 = .ok (.iconst 1, 1) := by decide +kernel
theorem d_M_far_252 : decode b_M_far 252 = .ok (.iadd, 1) := by decide +kernel
theorem d_M_far_253 : decode b_M_far 253 = .ok (.invokevirtual 60, 3) := by decide +kernel
theorem d_M_far_256 : decode b_M_far 256 = .ok (.iload 6, 2) := by decide +kernel
theorem d_M_far_258 : decode b_M_far 258 = .ok (.ifCond .eq 16, 3) := by decide +kernel
theorem d_M_far_261 : decode b_M_far 261 = .ok (.aload_n 0, 1) := by decide +kernel
theorem d_M_far_262 : decode b_M_far 262 = .ok (.iload 5, 2) := by decide +kernel
theorem d_M_far_264 : decode b_M_far 264 = .ok (.bipush 9, 2) := by decide +kernel
theorem d_M_far_266 : decode b_M_far 266 = .ok (.iadd, 1) := by decide +kernel
theorem d_M_far_267 : decode b_M_far 267 = .ok (.iload 4, 2) := by decide +kernel
theorem d_M_far_269 : decode b_M_far 269 = .ok (.iconst 1, 1) := by decide +kernel
theorem d_M_far_270 : decode b_M_far 270 = .ok (.iadd, 1) := by decide +kernel
theorem d_M_far_271 : decode b_M_far 271 = .ok (.invokevirtual 60, 3) := by decide +kernel
theorem d_M_far_274 : decode b_M_far 274 = .ok (.iload 7, 2) := by decide +kernel
theorem d_M_far_276 : decode b_M_far 276 = .ok (.ifCond .eq 15, 3) := by decide +kernel
theorem d_M_far_279 : decode b_M_far 279 = .ok (.aload_n 0, 1) := by decide +kernel
theorem d_M_far_280 : decode b_M_far 280 = .ok (.iload 5, 2) := by decide +kernel
theorem d_M_far_282 : decode b_M_far 282 = .ok (.iconst 1, 1) := by decide +kernel
theorem d_M_far_283 : decode b_M_far 283 = .ok (.iadd, 1) := by decide +kernel
theorem d_M_far_284 : decode b_M_far 284 = .ok (.iload 4, 2) := by decide +kernel
theorem d_M_far_286 : decode b_M_far 286 = .ok (.iconst 1, 1) := by decide +kernel
theorem d_M_far_287 : decode b_M_far 287 = .ok (.iadd, 1) := by decide +kernel
theorem d_M_far_288 : decode b_M_far 288 = .ok (.invokevirtual 60, 3) := by decide +kernel
theorem d_M_far_291 : decode b_M_far 291 = .ok (.iinc 5 1, 3) := by decide +kernel
theorem d_M_far_294 : decode b_M_far 294 = .ok (.goto (-123), 3) := by decide +kernel
theorem d_M_far_297 : decode b_M_far 297 = .ok (.iinc 4 1, 3) := by decide +kernel
theorem d_M_far_300 : decode b_M_far 300 = .ok (.goto (-261), 3) := by decide +kernel
theorem d_M_far_303 : decode b_M_far 303 = .ok (.bipush 18, 2) := by decide +kernel
theorem d_M_far_305 : decode b_M_far 305 = .ok (.ireturn, 1) := by decide +kernel
theorem d_M_distance_0 : decode b_M_distance 0 = .ok (.aload_n 0, 1) := by decide +kernel
theorem d_M_distance_1 : decode b_M_distance 1 = .ok (.iload_n 1, 1) := by decide +kernel
theorem d_M_distance_2 : decode b_M_distance 2 = .ok (.invokevirtual 57, 3) := by decide +kernel
theorem d_M_distance_5 : decode b_M_distance 5 = .ok (.istore_n 2, 1) := by decide +kernel
theorem d_M_distance_6 : decode b_M_distance 6 = .ok (.iload_n 2, 1) := by decide +kernel
theorem d_M_distance_7 : decode b_M_distance 7 = .ok (.ifCond .ge 7, 3) := by decide +kernel
theorem d_M_distance_10 : decode b_M_distance 10 = .ok (.iconst (-1), 1) := by decide +kernel
theorem d_M_distance_11 : decode b_M_distance 11 = .ok (.goto 10, 3) := by decide +kernel
theorem d_M_distance_14 : decode b_M_distance 14 = .ok (.aload_n 0, 1) := by decide +kernel
theorem d_M_distance_15 : decode b_M_distance 15 = .ok (.iload_n 2, 1) := by decide +kernel
theorem d_M_distance_16 : decode b_M_distance 16 = .ok (.iconst 0, 1) := by decide +kernel
theorem d_M_distance_17 : decode b_M_distance 17 = .ok (.iconst 0, 1) := by decide +kernel
theorem d_M_distance_18 : decode b_M_distance 18 = .ok (.invokevirtual 64, 3) := by decide +kernel
theorem d_M_distance_21 : decode b_M_distance 21 = .ok (.ireturn, 1) := by decide +kernel
theorem d_M_near_0 : decode b_M_near 0 = .ok (.iconst 0, 1) := by decide +kernel
theorem d_M_near_1 : decode b_M_near 1 = .ok (.istore_n 2, 1) := by decide +kernel
theorem d_M_near_2 : decode b_M_near 2 = .ok (.iconst 0, 1) := by decide +kernel
theorem d_M_near_3 : decode b_M_near 3 = .ok (.istore_n 3, 1) := by decide +kernel
theorem d_M_near_4 : decode b_M_near 4 = .ok (.iload_n 3, 1) := by decide +kernel
theorem d_M_near_5 : decode b_M_near 5 = .ok (.aload_n 0, 1) := by decide +kernel
theorem d_M_near_6 : decode b_M_near 6 = .ok (.getfield 37, 3) := by decide +kernel
theorem d_M_near_9 : decode b_M_near 9 = .ok (.if_icmp .ge 23, 3) := by decide +kernel
theorem d_M_near_12 : decode b_M_near 12 = .ok (.aload_n 0, 1) := by decide +kernel
theorem d_M_near_13 : decode b_M_near 13 = .ok (.iload_n 3, 1) := by decide +kernel
theorem d_M_near_14 : decode b_M_near 14 = .ok (.iconst 0, 1) := by decide +kernel
theorem d_M_near_15 : decode b_M_near 15 = .ok (.iconst 0, 1) := by decide +kernel
theorem d_M_near_16 : decode b_M_near 16 = .ok (.invokevirtual 64, 3) := by decide +kernel
theorem d_M_near_19 : decode b_M_near 19 = .ok (.iload_n 1, 1) := by decide +kernel
theorem d_M_near_20 : decode b_M_near 20 = .ok (.if_icmp .gt 6, 3) := by decide +kernel
theorem d_M_near_23 : decode b_M_near 23 = .ok (.iinc 2 1, 3) := by decide +kernel
theorem d_M_near_26 : decode b_M_near 26 = .ok (.iinc 3 1, 3) := by decide +kernel
theorem d_M_near_29 : decode b_M_near 29 = .ok (.goto (-25), 3) := by decide +kernel
theorem d_M_near_32 : decode b_M_near 32 = .ok (.iload_n 2, 1) := by decide +kernel
theorem d_M_near_33 : decode b_M_near 33 = .ok (.ireturn, 1) := by decide +kernel
theorem d_M_better_0 : decode b_M_better 0 = .ok (.iload_n 2, 1) := by decide +kernel
theorem d_M_better_1 : decode b_M_better 1 = .ok (.iload 4, 2) := by decide +kernel
theorem d_M_better_3 : decode b_M_better 3 = .ok (.if_icmp .eq 15, 3) := by decide +kernel
theorem d_M_better_6 : decode b_M_better 6 = .ok (.iload_n 2, 1) := by decide +kernel
theorem d_M_better_7 : decode b_M_better 7 = .ok (.iload 4, 2) := by decide +kernel
theorem d_M_better_9 : decode b_M_better 9 = .ok (.if_icmp .ge 7, 3) := by decide +kernel
theorem d_M_better_12 : decode b_M_better 12 = .ok (.iconst 1, 1) := by decide +kernel
theorem d_M_better_13 : decode b_M_better 13 = .ok (.goto 4, 3) := by decide +kernel
theorem d_M_better_16 : decode b_M_better 16 = .ok (.iconst 0, 1) := by decide +kernel
theorem d_M_better_17 : decode b_M_better 17 = .ok (.ireturn, 1) := by decide +kernel
theorem d_M_better_18 : decode b_M_better 18 = .ok (.aload_n 0, 1) := by decide +kernel
theorem d_M_better_19 : decode b_M_better 19 = .ok (.getfield 19, 3) := by decide +kernel
theorem d_M_better_22 : decode b_M_better 22 = .ok (.iload_n 1, 1) := by decide +kernel
theorem d_M_better_23 : decode b_M_better 23 = .ok (.iaload, 1) := by decide +kernel
theorem d_M_better_24 : decode b_M_better 24 = .ok (.aload_n 0, 1) := by decide +kernel
theorem d_M_better_25 : decode b_M_better 25 = .ok (.getfield 19, 3) := by decide +kernel
theorem d_M_better_28 : decode b_M_better 28 = .ok (.iload_n 3, 1) := by decide +kernel
theorem d_M_better_29 : decode b_M_better 29 = .ok (.iaload, 1) := by decide +kernel
theorem d_M_better_30 : decode b_M_better 30 = .ok (.if_icmp .eq 26, 3) := by decide +kernel
theorem d_M_better_33 : decode b_M_better 33 = .ok (.aload_n 0, 1) := by decide +kernel
theorem d_M_better_34 : decode b_M_better 34 = .ok (.getfield 19, 3) := by decide +kernel
theorem d_M_better_37 : decode b_M_better 37 = .ok (.iload_n 1, 1) := by decide +kernel
theorem d_M_better_38 : decode b_M_better 38 = .ok (.iaload, 1) := by decide +kernel
theorem d_M_better_39 : decode b_M_better 39 = .ok (.aload_n 0, 1) := by decide +kernel
theorem d_M_better_40 : decode b_M_better 40 = .ok (.getfield 19, 3) := by decide +kernel
theorem d_M_better_43 : decode b_M_better 43 = .ok (.iload_n 3, 1) := by decide +kernel
theorem d_M_better_44 : decode b_M_better 44 = .ok (.iaload, 1) := by decide +kernel
theorem d_M_better_45 : decode b_M_better 45 = .ok (.if_icmp .le 7, 3) := by decide +kernel
theorem d_M_better_48 : decode b_M_better 48 = .ok (.iconst 1, 1) := by decide +kernel
theorem d_M_better_49 : decode b_M_better 49 = .ok (.goto 13, 3) := by decide +kernel
theorem d_M_better_52 : decode b_M_better 52 = .ok (.iconst 0, 1) := by decide +kernel
theorem d_M_better_53 : decode b_M_better 53 = .ok (.goto 9, 3) := by decide +kernel
theorem d_M_better_56 : decode b_M_better 56 = .ok (.aload_n 0, 1) := by decide +kernel
theorem d_M_better_57 : decode b_M_better 57 = .ok (.iload_n 1, 1) := by decide +kernel
theorem d_M_better_58 : decode b_M_better 58 = .ok (.iload_n 3, 1) := by decide +kernel
theorem d_M_better_59 : decode b_M_better 59 = .ok (.invokevirtual 40, 3) := by decide +kernel
theorem d_M_better_62 : decode b_M_better 62 = .ok (.ireturn, 1) := by decide +kernel
theorem d_M_suggest_0 : decode b_M_suggest 0 = .ok (.iconst 0, 1) := by decide +kernel
theorem d_M_suggest_1 : decode b_M_suggest 1 = .ok (.istore_n 3, 1) := by decide +kernel
theorem d_M_suggest_2 : decode b_M_suggest 2 = .ok (.iload_n 3, 1) := by decide +kernel
theorem d_M_suggest_3 : decode b_M_suggest 3 = .ok (.aload_n 0, 1) := by decide +kernel
theorem d_M_suggest_4 : decode b_M_suggest 4 = .ok (.getfield 37, 3) := by decide +kernel
theorem d_M_suggest_7 : decode b_M_suggest 7 = .ok (.if_icmp .ge 94, 3) := by decide +kernel
theorem d_M_suggest_10 : decode b_M_suggest 10 = .ok (.iload_n 1, 1) := by decide +kernel
theorem d_M_suggest_11 : decode b_M_suggest 11 = .ok (.ifCond .lt 90, 3) := by decide +kernel
theorem d_M_suggest_14 : decode b_M_suggest 14 = .ok (.aload_n 0, 1) := by decide +kernel
theorem d_M_suggest_15 : decode b_M_suggest 15 = .ok (.iload_n 3, 1) := by decide +kernel
theorem d_M_suggest_16 : decode b_M_suggest 16 = .ok (.iconst 0, 1) := by decide +kernel
theorem d_M_suggest_17 : decode b_M_suggest 17 = .ok (.iconst 0, 1) := by decide +kernel
theorem d_M_suggest_18 : decode b_M_suggest 18 = .ok (.invokevirtual 64, 3) := by decide +kernel
theorem d_M_suggest_21 : decode b_M_suggest 21 = .ok (.istore 4, 2) := by decide +kernel
theorem d_M_suggest_23 : decode b_M_suggest 23 = .ok (.iconst 0, 1) := by decide +kernel
theorem d_M_suggest_24 : decode b_M_suggest 24 = .ok (.istore 5, 2) := by decide +kernel
theorem d_M_suggest_26 : decode b_M_suggest 26 = .ok (.iconst 0, 1) := by decide +kernel
theorem d_M_suggest_27 : decode b_M_suggest 27 = .ok (.istore 6, 2) := by decide +kernel
theorem d_M_suggest_29 : decode b_M_suggest 29 = .ok (.iload 6, 2) := by decide +kernel
theorem d_M_suggest_31 : decode b_M_suggest 31 = .ok (.aload_n 0, 1) := by decide +kernel
theorem d_M_suggest_32 : decode b_M_suggest 32 = .ok (.getfield 37, 3) := by decide +kernel
theorem d_M_suggest_35 : decode b_M_suggest 35 = .ok (.if_icmp .ge 42, 3) := by decide +kernel
theorem d_M_suggest_38 : decode b_M_suggest 38 = .ok (.aload_n 0, 1) := by decide +kernel
theorem d_M_suggest_39 : decode b_M_suggest 39 = .ok (.iload 6, 2) := by decide +kernel
theorem d_M_suggest_41 : decode b_M_suggest 41 = .ok (.iconst 0, 1) := by decide +kernel
theorem d_M_suggest_42 : decode b_M_suggest 42 = .ok (.iconst 0, 1) := by decide +kernel
theorem d_M_suggest_43 : decode b_M_suggest 43 = .ok (.invokevirtual 64, 3) := by decide +kernel
theorem d_M_suggest_46 : decode b_M_suggest 46 = .ok (.istore 7, 2) := by decide +kernel
theorem d_M_suggest_48 : decode b_M_suggest 48 = .ok (.iload 7, 2) := by decide +kernel
theorem d_M_suggest_50 : decode b_M_suggest 50 = .ok (.iload_n 2, 1) := by decide +kernel
theorem d_M_suggest_51 : decode b_M_suggest 51 = .ok (.if_icmp .gt 20, 3) := by decide +kernel
theorem d_M_suggest_54 : decode b_M_suggest 54 = .ok (.aload_n 0, 1) := by decide +kernel
theorem d_M_suggest_55 : decode b_M_suggest 55 = .ok (.iload 6, 2) := by decide +kernel
theorem d_M_suggest_57 : decode b_M_suggest 57 = .ok (.iload 7, 2) := by decide +kernel
theorem d_M_suggest_59 : decode b_M_suggest 59 = .ok (.iload_n 3, 1) := by decide +kernel
theorem d_M_suggest_60 : decode b_M_suggest 60 = .ok (.iload 4, 2) := by decide +kernel
theorem d_M_suggest_62 : decode b_M_suggest 62 = .ok (.invokevirtual 68, 3) := by decide +kernel
theorem d_M_suggest_65 : decode b_M_suggest 65 = .ok (.ifCond .eq 6, 3) := by decide +kernel
theorem d_M_suggest_68 : decode b_M_suggest 68 = .ok (.iinc 5 1, 3) := by decide +kernel
theorem d_M_suggest_71 : decode b_M_suggest 71 = .ok (.iinc 6 1, 3) := by decide +kernel
theorem d_M_suggest_74 : decode b_M_suggest 74 = .ok (.goto (-45), 3) := by decide +kernel
theorem d_M_suggest_77 : decode b_M_suggest 77 = .ok (.iload 4, 2) := by decide +kernel
theorem d_M_suggest_79 : decode b_M_suggest 79 = .ok (.iload_n 2, 1) := by decide +kernel
theorem d_M_suggest_80 : decode b_M_suggest 80 = .ok (.if_icmp .gt 15, 3) := by decide +kernel
theorem d_M_suggest_83 : decode b_M_suggest 83 = .ok (.iload 5, 2) := by decide +kernel
theorem d_M_suggest_85 : decode b_M_suggest 85 = .ok (.iload_n 1, 1) := by decide +kernel
theorem d_M_suggest_86 : decode b_M_suggest 86 = .ok (.if_icmp .ne 9, 3) := by decide +kernel
theorem d_M_suggest_89 : decode b_M_suggest 89 = .ok (.aload_n 0, 1) := by decide +kernel
theorem d_M_suggest_90 : decode b_M_suggest 90 = .ok (.iload_n 3, 1) := by decide +kernel
theorem d_M_suggest_91 : decode b_M_suggest 91 = .ok (.invokevirtual 44, 3) := by decide +kernel
theorem d_M_suggest_94 : decode b_M_suggest 94 = .ok (.ireturn, 1) := by decide +kernel
theorem d_M_suggest_95 : decode b_M_suggest 95 = .ok (.iinc 3 1, 3) := by decide +kernel
theorem d_M_suggest_98 : decode b_M_suggest 98 = .ok (.goto (-96), 3) := by decide +kernel
theorem d_M_suggest_101 : decode b_M_suggest 101 = .ok (.iconst (-1), 1) := by decide +kernel
theorem d_M_suggest_102 : decode b_M_suggest 102 = .ok (.ireturn, 1) := by decide +kernel
theorem d_M_complete_0 : decode b_M_complete 0 = .ok (.iconst 0, 1) := by decide +kernel
theorem d_M_complete_1 : decode b_M_complete 1 = .ok (.istore_n 2, 1) := by decide +kernel
theorem d_M_complete_2 : decode b_M_complete 2 = .ok (.iload_n 2, 1) := by decide +kernel
theorem d_M_complete_3 : decode b_M_complete 3 = .ok (.aload_n 0, 1) := by decide +kernel
theorem d_M_complete_4 : decode b_M_complete 4 = .ok (.getfield 37, 3) := by decide +kernel
theorem d_M_complete_7 : decode b_M_complete 7 = .ok (.if_icmp .ge 76, 3) := by decide +kernel
theorem d_M_complete_10 : decode b_M_complete 10 = .ok (.iload_n 1, 1) := by decide +kernel
theorem d_M_complete_11 : decode b_M_complete 11 = .ok (.ifCond .lt 72, 3) := by decide +kernel
theorem d_M_complete_14 : decode b_M_complete 14 = .ok (.iconst 0, 1) := by decide +kernel
theorem d_M_complete_15 : decode b_M_complete 15 = .ok (.istore_n 3, 1) := by decide +kernel
theorem d_M_complete_16 : decode b_M_complete 16 = .ok (.iconst 0, 1) := by decide +kernel
theorem d_M_complete_17 : decode b_M_complete 17 = .ok (.istore 4, 2) := by decide +kernel
theorem d_M_complete_19 : decode b_M_complete 19 = .ok (.iload 4, 2) := by decide +kernel
theorem d_M_complete_21 : decode b_M_complete 21 = .ok (.aload_n 0, 1) := by decide +kernel
theorem d_M_complete_22 : decode b_M_complete 22 = .ok (.getfield 37, 3) := by decide +kernel
theorem d_M_complete_25 : decode b_M_complete 25 = .ok (.if_icmp .ge 33, 3) := by decide +kernel
theorem d_M_complete_28 : decode b_M_complete 28 = .ok (.aload_n 0, 1) := by decide +kernel
theorem d_M_complete_29 : decode b_M_complete 29 = .ok (.iload 4, 2) := by decide +kernel
theorem d_M_complete_31 : decode b_M_complete 31 = .ok (.invokevirtual 48, 3) := by decide +kernel
theorem d_M_complete_34 : decode b_M_complete 34 = .ok (.ifCond .eq 18, 3) := by decide +kernel
theorem d_M_complete_37 : decode b_M_complete 37 = .ok (.aload_n 0, 1) := by decide +kernel
theorem d_M_complete_38 : decode b_M_complete 38 = .ok (.iload 4, 2) := by decide +kernel
theorem d_M_complete_40 : decode b_M_complete 40 = .ok (.iconst 0, 1) := by decide +kernel
theorem d_M_complete_41 : decode b_M_complete 41 = .ok (.iload_n 2, 1) := by decide +kernel
theorem d_M_complete_42 : decode b_M_complete 42 = .ok (.iconst 0, 1) := by decide +kernel
theorem d_M_complete_43 : decode b_M_complete 43 = .ok (.invokevirtual 68, 3) := by decide +kernel
theorem d_M_complete_46 : decode b_M_complete 46 = .ok (.ifCond .eq 6, 3) := by decide +kernel
theorem d_M_complete_49 : decode b_M_complete 49 = .ok (.iinc 3 1, 3) := by decide +kernel
theorem d_M_complete_52 : decode b_M_complete 52 = .ok (.iinc 4 1, 3) := by decide +kernel
theorem d_M_complete_55 : decode b_M_complete 55 = .ok (.goto (-36), 3) := by decide +kernel
theorem d_M_complete_58 : decode b_M_complete 58 = .ok (.aload_n 0, 1) := by decide +kernel
theorem d_M_complete_59 : decode b_M_complete 59 = .ok (.iload_n 2, 1) := by decide +kernel
theorem d_M_complete_60 : decode b_M_complete 60 = .ok (.invokevirtual 48, 3) := by decide +kernel
theorem d_M_complete_63 : decode b_M_complete 63 = .ok (.ifCond .eq 14, 3) := by decide +kernel
theorem d_M_complete_66 : decode b_M_complete 66 = .ok (.iload_n 3, 1) := by decide +kernel
theorem d_M_complete_67 : decode b_M_complete 67 = .ok (.iload_n 1, 1) := by decide +kernel
theorem d_M_complete_68 : decode b_M_complete 68 = .ok (.if_icmp .ne 9, 3) := by decide +kernel
theorem d_M_complete_71 : decode b_M_complete 71 = .ok (.aload_n 0, 1) := by decide +kernel
theorem d_M_complete_72 : decode b_M_complete 72 = .ok (.iload_n 2, 1) := by decide +kernel
theorem d_M_complete_73 : decode b_M_complete 73 = .ok (.invokevirtual 44, 3) := by decide +kernel
theorem d_M_complete_76 : decode b_M_complete 76 = .ok (.ireturn, 1) := by decide +kernel
theorem d_M_complete_77 : decode b_M_complete 77 = .ok (.iinc 2 1, 3) := by decide +kernel
theorem d_M_complete_80 : decode b_M_complete 80 = .ok (.goto (-78), 3) := by decide +kernel
theorem d_M_complete_83 : decode b_M_complete 83 = .ok (.iconst (-1), 1) := by decide +kernel
theorem d_M_complete_84 : decode b_M_complete 84 = .ok (.ireturn, 1) := by decide +kernel
theorem d_M_edit_0 : decode b_M_edit 0 = .ok (.aload_n 0, 1) := by decide +kernel
theorem d_M_edit_1 : decode b_M_edit 1 = .ok (.iload_n 1, 1) := by decide +kernel
theorem d_M_edit_2 : decode b_M_edit 2 = .ok (.invokevirtual 57, 3) := by decide +kernel
theorem d_M_edit_5 : decode b_M_edit 5 = .ok (.istore_n 3, 1) := by decide +kernel
theorem d_M_edit_6 : decode b_M_edit 6 = .ok (.iload_n 3, 1) := by decide +kernel
theorem d_M_edit_7 : decode b_M_edit 7 = .ok (.ifCond .lt 13, 3) := by decide +kernel
theorem d_M_edit_10 : decode b_M_edit 10 = .ok (.iload_n 2, 1) := by decide +kernel
theorem d_M_edit_11 : decode b_M_edit 11 = .ok (.ifCond .lt 9, 3) := by decide +kernel
theorem d_M_edit_14 : decode b_M_edit 14 = .ok (.iload_n 2, 1) := by decide +kernel
theorem d_M_edit_15 : decode b_M_edit 15 = .ok (.bipush 18, 2) := by decide +kernel
theorem d_M_edit_17 : decode b_M_edit 17 = .ok (.if_icmp .le 5, 3) := by decide +kernel
theorem d_M_edit_20 : decode b_M_edit 20 = .ok (.iconst (-1), 1) := by decide +kernel
theorem d_M_edit_21 : decode b_M_edit 21 = .ok (.ireturn, 1) := by decide +kernel
theorem d_M_edit_22 : decode b_M_edit 22 = .ok (.iconst 0, 1) := by decide +kernel
theorem d_M_edit_23 : decode b_M_edit 23 = .ok (.istore 4, 2) := by decide +kernel
theorem d_M_edit_25 : decode b_M_edit 25 = .ok (.iconst 0, 1) := by decide +kernel
theorem d_M_edit_26 : decode b_M_edit 26 = .ok (.istore 5, 2) := by decide +kernel
theorem d_M_edit_28 : decode b_M_edit 28 = .ok (.aload_n 0, 1) := by decide +kernel
theorem d_M_edit_29 : decode b_M_edit 29 = .ok (.iload_n 3, 1) := by decide +kernel
theorem d_M_edit_30 : decode b_M_edit 30 = .ok (.iconst 0, 1) := by decide +kernel
theorem d_M_edit_31 : decode b_M_edit 31 = .ok (.iconst 0, 1) := by decide +kernel
theorem d_M_edit_32 : decode b_M_edit 32 = .ok (.invokevirtual 64, 3) := by decide +kernel
theorem d_M_edit_35 : decode b_M_edit 35 = .ok (.istore 6, 2) := by decide +kernel
theorem d_M_edit_37 : decode b_M_edit 37 = .ok (.iconst 0, 1) := by decide +kernel
theorem d_M_edit_38 : decode b_M_edit 38 = .ok (.istore 7, 2) := by decide +kernel
theorem d_M_edit_40 : decode b_M_edit 40 = .ok (.iload 7, 2) := by decide +kernel
theorem d_M_edit_42 : decode b_M_edit 42 = .ok (.iload_n 2, 1) := by decide +kernel
theorem d_M_edit_43 : decode b_M_edit 43 = .ok (.if_icmp .gt 62, 3) := by decide +kernel
theorem d_M_edit_46 : decode b_M_edit 46 = .ok (.aload_n 0, 1) := by decide +kernel
theorem d_M_edit_47 : decode b_M_edit 47 = .ok (.iload_n 3, 1) := by decide +kernel
theorem d_M_edit_48 : decode b_M_edit 48 = .ok (.iload 4, 2) := by decide +kernel
theorem d_M_edit_50 : decode b_M_edit 50 = .ok (.iload 5, 2) := by decide +kernel
theorem d_M_edit_52 : decode b_M_edit 52 = .ok (.iload 6, 2) := by decide +kernel
theorem d_M_edit_54 : decode b_M_edit 54 = .ok (.invokevirtual 72, 3) := by decide +kernel
theorem d_M_edit_57 : decode b_M_edit 57 = .ok (.istore 8, 2) := by decide +kernel
theorem d_M_edit_59 : decode b_M_edit 59 = .ok (.iload 8, 2) := by decide +kernel
theorem d_M_edit_61 : decode b_M_edit 61 = .ok (.ifCond .lt 9, 3) := by decide +kernel
theorem d_M_edit_64 : decode b_M_edit 64 = .ok (.iload 7, 2) := by decide +kernel
theorem d_M_edit_66 : decode b_M_edit 66 = .ok (.iload_n 2, 1) := by decide +kernel
theorem d_M_edit_67 : decode b_M_edit 67 = .ok (.if_icmp .ne 6, 3) := by decide +kernel
theorem d_M_edit_70 : decode b_M_edit 70 = .ok (.iload 8, 2) := by decide +kernel
theorem d_M_edit_72 : decode b_M_edit 72 = .ok (.ireturn, 1) := by decide +kernel
theorem d_M_edit_73 : decode b_M_edit 73 = .ok (.iload 8, 2) := by decide +kernel
theorem d_M_edit_75 : decode b_M_edit 75 = .ok (.ifCond .le 6, 3) := by decide +kernel
theorem d_M_edit_78 : decode b_M_edit 78 = .ok (.iinc 6 (-1), 3) := by decide +kernel
theorem d_M_edit_81 : decode b_M_edit 81 = .ok (.iload 8, 2) := by decide +kernel
theorem d_M_edit_83 : decode b_M_edit 83 = .ok (.iconst 3, 1) := by decide +kernel
theorem d_M_edit_84 : decode b_M_edit 84 = .ok (.if_icmp .eq 6, 3) := by decide +kernel
theorem d_M_edit_87 : decode b_M_edit 87 = .ok (.iinc 4 1, 3) := by decide +kernel
theorem d_M_edit_90 : decode b_M_edit 90 = .ok (.iload 8, 2) := by decide +kernel
theorem d_M_edit_92 : decode b_M_edit 92 = .ok (.iconst 2, 1) := by decide +kernel
theorem d_M_edit_93 : decode b_M_edit 93 = .ok (.if_icmp .eq 6, 3) := by decide +kernel
theorem d_M_edit_96 : decode b_M_edit 96 = .ok (.iinc 5 1, 3) := by decide +kernel
theorem d_M_edit_99 : decode b_M_edit 99 = .ok (.iinc 7 1, 3) := by decide +kernel
theorem d_M_edit_102 : decode b_M_edit 102 = .ok (.goto (-62), 3) := by decide +kernel
theorem d_M_edit_105 : decode b_M_edit 105 = .ok (.iconst (-1), 1) := by decide +kernel
theorem d_M_edit_106 : decode b_M_edit 106 = .ok (.ireturn, 1) := by decide +kernel
theorem d_M_next_0 : decode b_M_next 0 = .ok (.iload_n 2, 1) := by decide +kernel
theorem d_M_next_1 : decode b_M_next 1 = .ok (.aload_n 0, 1) := by decide +kernel
theorem d_M_next_2 : decode b_M_next 2 = .ok (.getfield 29, 3) := by decide +kernel
theorem d_M_next_5 : decode b_M_next 5 = .ok (.if_icmp .ge 7, 3) := by decide +kernel
theorem d_M_next_8 : decode b_M_next 8 = .ok (.iconst 1, 1) := by decide +kernel
theorem d_M_next_9 : decode b_M_next 9 = .ok (.goto 4, 3) := by decide +kernel
theorem d_M_next_12 : decode b_M_next 12 = .ok (.iconst 0, 1) := by decide +kernel
theorem d_M_next_13 : decode b_M_next 13 = .ok (.istore 5, 2) := by decide +kernel
theorem d_M_next_15 : decode b_M_next 15 = .ok (.iload_n 3, 1) := by decide +kernel
theorem d_M_next_16 : decode b_M_next 16 = .ok (.aload_n 0, 1) := by decide +kernel
theorem d_M_next_17 : decode b_M_next 17 = .ok (.getfield 16, 3) := by decide +kernel
theorem d_M_next_20 : decode b_M_next 20 = .ok (.iload_n 1, 1) := by decide +kernel
theorem d_M_next_21 : decode b_M_next 21 = .ok (.iaload, 1) := by decide +kernel
theorem d_M_next_22 : decode b_M_next 22 = .ok (.if_icmp .ge 7, 3) := by decide +kernel
theorem d_M_next_25 : decode b_M_next 25 = .ok (.iconst 1, 1) := by decide +kernel
theorem d_M_next_26 : decode b_M_next 26 = .ok (.goto 4, 3) := by decide +kernel
theorem d_M_next_29 : decode b_M_next 29 = .ok (.iconst 0, 1) := by decide +kernel
theorem d_M_next_30 : decode b_M_next 30 = .ok (.istore 6, 2) := by decide +kernel
theorem d_M_next_32 : decode b_M_next 32 = .ok (.iload 5, 2) := by decide +kernel
theorem d_M_next_34 : decode b_M_next 34 = .ok (.ifCond .eq 78, 3) := by decide +kernel
theorem d_M_next_37 : decode b_M_next 37 = .ok (.iload 6, 2) := by decide +kernel
theorem d_M_next_39 : decode b_M_next 39 = .ok (.ifCond .eq 73, 3) := by decide +kernel
theorem d_M_next_42 : decode b_M_next 42 = .ok (.aload_n 0, 1) := by decide +kernel
theorem d_M_next_43 : decode b_M_next 43 = .ok (.getfield 7, 3) := by decide +kernel
theorem d_M_next_46 : decode b_M_next 46 = .ok (.iload_n 2, 1) := by decide +kernel
theorem d_M_next_47 : decode b_M_next 47 = .ok (.iaload, 1) := by decide +kernel
theorem d_M_next_48 : decode b_M_next 48 = .ok (.aload_n 0, 1) := by decide +kernel
theorem d_M_next_49 : decode b_M_next 49 = .ok (.getfield 13, 3) := by decide +kernel
theorem d_M_next_52 : decode b_M_next 52 = .ok (.bipush 8, 2) := by decide +kernel
theorem d_M_next_54 : decode b_M_next 54 = .ok (.iload_n 1, 1) := by decide +kernel
theorem d_M_next_55 : decode b_M_next 55 = .ok (.imul, 1) := by decide +kernel
theorem d_M_next_56 : decode b_M_next 56 = .ok (.iload_n 3, 1) := by decide +kernel
theorem d_M_next_57 : decode b_M_next 57 = .ok (.iadd, 1) := by decide +kernel
theorem d_M_next_58 : decode b_M_next 58 = .ok (.iaload, 1) := by decide +kernel
theorem d_M_next_59 : decode b_M_next 59 = .ok (.if_icmp .ne 7, 3) := by decide +kernel
theorem d_M_next_62 : decode b_M_next 62 = .ok (.iconst 1, 1) := by decide +kernel
theorem d_M_next_63 : decode b_M_next 63 = .ok (.goto 4, 3) := by decide +kernel
theorem d_M_next_66 : decode b_M_next 66 = .ok (.iconst 0, 1) := by decide +kernel
theorem d_M_next_67 : decode b_M_next 67 = .ok (.istore 7, 2) := by decide +kernel
theorem d_M_next_69 : decode b_M_next 69 = .ok (.aload_n 0, 1) := by decide +kernel
theorem d_M_next_70 : decode b_M_next 70 = .ok (.iload_n 1, 1) := by decide +kernel
theorem d_M_next_71 : decode b_M_next 71 = .ok (.iload_n 2, 1) := by decide +kernel
theorem d_M_next_72 : decode b_M_next 72 = .ok (.iconst 1, 1) := by decide +kernel
theorem d_M_next_73 : decode b_M_next 73 = .ok (.iadd, 1) := by decide +kernel
theorem d_M_next_74 : decode b_M_next 74 = .ok (.iload_n 3, 1) := by decide +kernel
theorem d_M_next_75 : decode b_M_next 75 = .ok (.iconst 1, 1) := by decide +kernel
theorem d_M_next_76 : decode b_M_next 76 = .ok (.iadd, 1) := by decide +kernel
theorem d_M_next_77 : decode b_M_next 77 = .ok (.invokevirtual 64, 3) := by decide +kernel
theorem d_M_next_80 : decode b_M_next 80 = .ok (.istore 8, 2) := by decide +kernel
theorem d_M_next_82 : decode b_M_next 82 = .ok (.iload 7, 2) := by decide +kernel
theorem d_M_next_84 : decode b_M_next 84 = .ok (.ifCond .eq 12, 3) := by decide +kernel
theorem d_M_next_87 : decode b_M_next 87 = .ok (.iload 8, 2) := by decide +kernel
theorem d_M_next_89 : decode b_M_next 89 = .ok (.iload 4, 2) := by decide +kernel
theorem d_M_next_91 : decode b_M_next 91 = .ok (.if_icmp .ne 5, 3) := by decide +kernel
theorem d_M_next_94 : decode b_M_next 94 = .ok (.iconst 0, 1) := by decide +kernel
theorem d_M_next_95 : decode b_M_next 95 = .ok (.ireturn, 1) := by decide +kernel
theorem d_M_next_96 : decode b_M_next 96 = .ok (.iload 7, 2) := by decide +kernel
theorem d_M_next_98 : decode b_M_next 98 = .ok (.ifCond .ne 14, 3) := by decide +kernel
theorem d_M_next_101 : decode b_M_next 101 = .ok (.iload 8, 2) := by decide +kernel
theorem d_M_next_103 : decode b_M_next 103 = .ok (.iload 4, 2) := by decide +kernel
theorem d_M_next_105 : decode b_M_next 105 = .ok (.iconst 1, 1) := by decide +kernel
theorem d_M_next_106 : decode b_M_next 106 = .ok (.isub, 1) := by decide +kernel
theorem d_M_next_107 : decode b_M_next 107 = .ok (.if_icmp .ne 5, 3) := by decide +kernel
theorem d_M_next_110 : decode b_M_next 110 = .ok (.iconst 1, 1) := by decide +kernel
theorem d_M_next_111 : decode b_M_next 111 = .ok (.ireturn, 1) := by decide +kernel
theorem d_M_next_112 : decode b_M_next 112 = .ok (.iload 5, 2) := by decide +kernel
theorem d_M_next_114 : decode b_M_next 114 = .ok (.ifCond .eq 21, 3) := by decide +kernel
theorem d_M_next_117 : decode b_M_next 117 = .ok (.aload_n 0, 1) := by decide +kernel
theorem d_M_next_118 : decode b_M_next 118 = .ok (.iload_n 1, 1) := by decide +kernel
theorem d_M_next_119 : decode b_M_next 119 = .ok (.iload_n 2, 1) := by decide +kernel
theorem d_M_next_120 : decode b_M_next 120 = .ok (.iconst 1, 1) := by decide +kernel
theorem d_M_next_121 : decode b_M_next 121 = .ok (.iadd, 1) := by decide +kernel
theorem d_M_next_122 : decode b_M_next 122 = .ok (.iload_n 3, 1) := by decide +kernel
theorem d_M_next_123 : decode b_M_next 123 = .ok (.invokevirtual 64, 3) := by decide +kernel
theorem d_M_next_126 : decode b_M_next 126 = .ok (.iload 4, 2) := by decide +kernel
theorem d_M_next_128 : decode b_M_next 128 = .ok (.iconst 1, 1) := by decide +kernel
theorem d_M_next_129 : decode b_M_next 129 = .ok (.isub, 1) := by decide +kernel
theorem d_M_next_130 : decode b_M_next 130 = .ok (.if_icmp .ne 5, 3) := by decide +kernel
theorem d_M_next_133 : decode b_M_next 133 = .ok (.iconst 2, 1) := by decide +kernel
theorem d_M_next_134 : decode b_M_next 134 = .ok (.ireturn, 1) := by decide +kernel
theorem d_M_next_135 : decode b_M_next 135 = .ok (.iload 6, 2) := by decide +kernel
theorem d_M_next_137 : decode b_M_next 137 = .ok (.ifCond .eq 21, 3) := by decide +kernel
theorem d_M_next_140 : decode b_M_next 140 = .ok (.aload_n 0, 1) := by decide +kernel
theorem d_M_next_141 : decode b_M_next 141 = .ok (.iload_n 1, 1) := by decide +kernel
theorem d_M_next_142 : decode b_M_next 142 = .ok (.iload_n 2, 1) := by decide +kernel
theorem d_M_next_143 : decode b_M_next 143 = .ok (.iload_n 3, 1) := by decide +kernel
theorem d_M_next_144 : decode b_M_next 144 = .ok (.iconst 1, 1) := by decide +kernel
theorem d_M_next_145 : decode b_M_next 145 = .ok (.iadd, 1) := by decide +kernel
theorem d_M_next_146 : decode b_M_next 146 = .ok (.invokevirtual 64, 3) := by decide +kernel
theorem d_M_next_149 : decode b_M_next 149 = .ok (.iload 4, 2) := by decide +kernel
theorem d_M_next_151 : decode b_M_next 151 = .ok (.iconst 1, 1) := by decide +kernel
theorem d_M_next_152 : decode b_M_next 152 = .ok (.isub, 1) := by decide +kernel
theorem d_M_next_153 : decode b_M_next 153 = .ok (.if_icmp .ne 5, 3) := by decide +kernel
theorem d_M_next_156 : decode b_M_next 156 = .ok (.iconst 3, 1) := by decide +kernel
theorem d_M_next_157 : decode b_M_next 157 = .ok (.ireturn, 1) := by decide +kernel
theorem d_M_next_158 : decode b_M_next 158 = .ok (.iconst (-1), 1) := by decide +kernel
theorem d_M_next_159 : decode b_M_next 159 = .ok (.ireturn, 1) := by decide +kernel
theorem d_M_left_0 : decode b_M_left 0 = .ok (.lconst 0, 1) := by decide +kernel
theorem d_M_left_1 : decode b_M_left 1 = .ok (.lstore_n 2, 1) := by decide +kernel
theorem d_M_left_2 : decode b_M_left 2 = .ok (.iconst 0, 1) := by decide +kernel
theorem d_M_left_3 : decode b_M_left 3 = .ok (.istore 4, 2) := by decide +kernel
theorem d_M_left_5 : decode b_M_left 5 = .ok (.iload 4, 2) := by decide +kernel
theorem d_M_left_7 : decode b_M_left 7 = .ok (.aload_n 0, 1) := by decide +kernel
theorem d_M_left_8 : decode b_M_left 8 = .ok (.getfield 29, 3) := by decide +kernel
theorem d_M_left_11 : decode b_M_left 11 = .ok (.if_icmp .ge 36, 3) := by decide +kernel
theorem d_M_left_14 : decode b_M_left 14 = .ok (.iload_n 1, 1) := by decide +kernel
theorem d_M_left_15 : decode b_M_left 15 = .ok (.iload 4, 2) := by decide +kernel
theorem d_M_left_17 : decode b_M_left 17 = .ok (.ishr, 1) := by decide +kernel
theorem d_M_left_18 : decode b_M_left 18 = .ok (.iconst 1, 1) := by decide +kernel
theorem d_M_left_19 : decode b_M_left 19 = .ok (.iand, 1) := by decide +kernel
theorem d_M_left_20 : decode b_M_left 20 = .ok (.iconst 1, 1) := by decide +kernel
theorem d_M_left_21 : decode b_M_left 21 = .ok (.if_icmp .ne 20, 3) := by decide +kernel
theorem d_M_left_24 : decode b_M_left 24 = .ok (.ldc2_w 76, 3) := by decide +kernel
theorem d_M_left_27 : decode b_M_left 27 = .ok (.lload_n 2, 1) := by decide +kernel
theorem d_M_left_28 : decode b_M_left 28 = .ok (.lmul, 1) := by decide +kernel
theorem d_M_left_29 : decode b_M_left 29 = .ok (.aload_n 0, 1) := by decide +kernel
theorem d_M_left_30 : decode b_M_left 30 = .ok (.getfield 7, 3) := by decide +kernel
theorem d_M_left_33 : decode b_M_left 33 = .ok (.iload 4, 2) := by decide +kernel
theorem d_M_left_35 : decode b_M_left 35 = .ok (.iaload, 1) := by decide +kernel
theorem d_M_left_36 : decode b_M_left 36 = .ok (.i2l, 1) := by decide +kernel
theorem d_M_left_37 : decode b_M_left 37 = .ok (.ladd, 1) := by decide +kernel
theorem d_M_left_38 : decode b_M_left 38 = .ok (.lconst 1, 1) := by decide +kernel
theorem d_M_left_39 : decode b_M_left 39 = .ok (.ladd, 1) := by decide +kernel
theorem d_M_left_40 : decode b_M_left 40 = .ok (.lstore_n 2, 1) := by decide +kernel
theorem d_M_left_41 : decode b_M_left 41 = .ok (.iinc 4 1, 3) := by decide +kernel
theorem d_M_left_44 : decode b_M_left 44 = .ok (.goto (-39), 3) := by decide +kernel
theorem d_M_left_47 : decode b_M_left 47 = .ok (.lload_n 2, 1) := by decide +kernel
theorem d_M_left_48 : decode b_M_left 48 = .ok (.lreturn, 1) := by decide +kernel
theorem d_M_bits_0 : decode b_M_bits 0 = .ok (.iconst 0, 1) := by decide +kernel
theorem d_M_bits_1 : decode b_M_bits 1 = .ok (.istore_n 1, 1) := by decide +kernel
theorem d_M_bits_2 : decode b_M_bits 2 = .ok (.iconst 0, 1) := by decide +kernel
theorem d_M_bits_3 : decode b_M_bits 3 = .ok (.istore_n 2, 1) := by decide +kernel
theorem d_M_bits_4 : decode b_M_bits 4 = .ok (.iload_n 2, 1) := by decide +kernel
theorem d_M_bits_5 : decode b_M_bits 5 = .ok (.bipush 10, 2) := by decide +kernel
theorem d_M_bits_7 : decode b_M_bits 7 = .ok (.if_icmp .ge 17, 3) := by decide +kernel
theorem d_M_bits_10 : decode b_M_bits 10 = .ok (.iload_n 1, 1) := by decide +kernel
theorem d_M_bits_11 : decode b_M_bits 11 = .ok (.iload_n 0, 1) := by decide +kernel
theorem d_M_bits_12 : decode b_M_bits 12 = .ok (.iload_n 2, 1) := by decide +kernel
theorem d_M_bits_13 : decode b_M_bits 13 = .ok (.ishr, 1) := by decide +kernel
theorem d_M_bits_14 : decode b_M_bits 14 = .ok (.iconst 1, 1) := by decide +kernel
theorem d_M_bits_15 : decode b_M_bits 15 = .ok (.iand, 1) := by decide +kernel
theorem d_M_bits_16 : decode b_M_bits 16 = .ok (.iadd, 1) := by decide +kernel
theorem d_M_bits_17 : decode b_M_bits 17 = .ok (.istore_n 1, 1) := by decide +kernel
theorem d_M_bits_18 : decode b_M_bits 18 = .ok (.iinc 2 1, 3) := by decide +kernel
theorem d_M_bits_21 : decode b_M_bits 21 = .ok (.goto (-17), 3) := by decide +kernel
theorem d_M_bits_24 : decode b_M_bits 24 = .ok (.iload_n 1, 1) := by decide +kernel
theorem d_M_bits_25 : decode b_M_bits 25 = .ok (.ireturn, 1) := by decide +kernel
theorem d_M_drops_0 : decode b_M_drops 0 = .ok (.iload_n 1, 1) := by decide +kernel
theorem d_M_drops_1 : decode b_M_drops 1 = .ok (.ifCond .lt 11, 3) := by decide +kernel
theorem d_M_drops_4 : decode b_M_drops 4 = .ok (.iload_n 1, 1) := by decide +kernel
theorem d_M_drops_5 : decode b_M_drops 5 = .ok (.aload_n 0, 1) := by decide +kernel
theorem d_M_drops_6 : decode b_M_drops 6 = .ok (.getfield 29, 3) := by decide +kernel
theorem d_M_drops_9 : decode b_M_drops 9 = .ok (.if_icmp .le 5, 3) := by decide +kernel
theorem d_M_drops_12 : decode b_M_drops 12 = .ok (.iconst 0, 1) := by decide +kernel
theorem d_M_drops_13 : decode b_M_drops 13 = .ok (.ireturn, 1) := by decide +kernel
theorem d_M_drops_14 : decode b_M_drops 14 = .ok (.iconst 0, 1) := by decide +kernel
theorem d_M_drops_15 : decode b_M_drops 15 = .ok (.istore_n 2, 1) := by decide +kernel
theorem d_M_drops_16 : decode b_M_drops 16 = .ok (.iconst 0, 1) := by decide +kernel
theorem d_M_drops_17 : decode b_M_drops 17 = .ok (.istore_n 3, 1) := by decide +kernel
theorem d_M_drops_18 : decode b_M_drops 18 = .ok (.iload_n 3, 1) := by decide +kernel
theorem d_M_drops_19 : decode b_M_drops 19 = .ok (.iconst 1, 1) := by decide +kernel
theorem d_M_drops_20 : decode b_M_drops 20 = .ok (.aload_n 0, 1) := by decide +kernel
theorem d_M_drops_21 : decode b_M_drops 21 = .ok (.getfield 29, 3) := by decide +kernel
theorem d_M_drops_24 : decode b_M_drops 24 = .ok (.ishl, 1) := by decide +kernel
theorem d_M_drops_25 : decode b_M_drops 25 = .ok (.if_icmp .ge 91, 3) := by decide +kernel
theorem d_M_drops_28 : decode b_M_drops 28 = .ok (.iload_n 3, 1) := by decide +kernel
theorem d_M_drops_29 : decode b_M_drops 29 = .ok (.invokestatic 78, 3) := by decide +kernel
theorem d_M_drops_32 : decode b_M_drops 32 = .ok (.aload_n 0, 1) := by decide +kernel
theorem d_M_drops_33 : decode b_M_drops 33 = .ok (.getfield 29, 3) := by decide +kernel
theorem d_M_drops_36 : decode b_M_drops 36 = .ok (.iload_n 1, 1) := by decide +kernel
theorem d_M_drops_37 : decode b_M_drops 37 = .ok (.isub, 1) := by decide +kernel
theorem d_M_drops_38 : decode b_M_drops 38 = .ok (.if_icmp .eq 6, 3) := by decide +kernel
theorem d_M_drops_41 : decode b_M_drops 41 = .ok (.goto 69, 3) := by decide +kernel
theorem d_M_drops_44 : decode b_M_drops 44 = .ok (.aload_n 0, 1) := by decide +kernel
theorem d_M_drops_45 : decode b_M_drops 45 = .ok (.iload_n 3, 1) := by decide +kernel
theorem d_M_drops_46 : decode b_M_drops 46 = .ok (.invokevirtual 81, 3) := by decide +kernel
theorem d_M_drops_49 : decode b_M_drops 49 = .ok (.lstore 4, 2) := by decide +kernel
theorem d_M_drops_51 : decode b_M_drops 51 = .ok (.iconst 0, 1) := by decide +kernel
theorem d_M_drops_52 : decode b_M_drops 52 = .ok (.istore 6, 2) := by decide +kernel
theorem d_M_drops_54 : decode b_M_drops 54 = .ok (.iconst 0, 1) := by decide +kernel
theorem d_M_drops_55 : decode b_M_drops 55 = .ok (.istore 7, 2) := by decide +kernel
theorem d_M_drops_57 : decode b_M_drops 57 = .ok (.iload 7, 2) := by decide +kernel
theorem d_M_drops_59 : decode b_M_drops 59 = .ok (.iload_n 2, 1) := by decide +kernel
theorem d_M_drops_60 : decode b_M_drops 60 = .ok (.if_icmp .ge 34, 3) := by decide +kernel
theorem d_M_drops_63 : decode b_M_drops 63 = .ok (.iload 6, 2) := by decide +kernel
theorem d_M_drops_65 : decode b_M_drops 65 = .ok (.ifCond .ne 16, 3) := by decide +kernel
theorem d_M_drops_68 : decode b_M_drops 68 = .ok (.aload_n 0, 1) := by decide +kernel
theorem d_M_drops_69 : decode b_M_drops 69 = .ok (.getfield 25, 3) := by decide +kernel
theorem d_M_drops_72 : decode b_M_drops 72 = .ok (.iload 7, 2) := by decide +kernel
theorem d_M_drops_74 : decode b_M_drops 74 = .ok (.laload, 1) := by decide +kernel
theorem d_M_drops_75 : decode b_M_drops 75 = .ok (.lload 4, 2) := by decide +kernel
theorem d_M_drops_77 : decode b_M_drops 77 = .ok (.lcmp, 1) := by decide +kernel
theorem d_M_drops_78 : decode b_M_drops 78 = .ok (.ifCond .ne 7, 3) := by decide +kernel
theorem d_M_drops_81 : decode b_M_drops 81 = .ok (.iconst 1, 1) := by decide +kernel
theorem d_M_drops_82 : decode b_M_drops 82 = .ok (.goto 4, 3) := by decide +kernel
theorem d_M_drops_85 : decode b_M_drops 85 = .ok (.iconst 0, 1) := by decide +kernel
theorem d_M_drops_86 : decode b_M_drops 86 = .ok (.istore 6, 2) := by decide +kernel
theorem d_M_drops_88 : decode b_M_drops 88 = .ok (.iinc 7 1, 3) := by decide +kernel
theorem d_M_drops_91 : decode b_M_drops 91 = .ok (.goto (-34), 3) := by decide +kernel
theorem d_M_drops_94 : decode b_M_drops 94 = .ok (.iload 6, 2) := by decide +kernel
theorem d_M_drops_96 : decode b_M_drops 96 = .ok (.ifCond .ne 14, 3) := by decide +kernel
theorem d_M_drops_99 : decode b_M_drops 99 = .ok (.aload_n 0, 1) := by decide +kernel
theorem d_M_drops_100 : decode b_M_drops 100 = .ok (.getfield 25, 3) := by decide +kernel
theorem d_M_drops_103 : decode b_M_drops 103 = .ok (.iload_n 2, 1) := by decide +kernel
theorem d_M_drops_104 : decode b_M_drops 104 = .ok (.lload 4, 2) := by decide +kernel
theorem d_M_drops_106 : decode b_M_drops 106 = .ok (.lastore, 1) := by decide +kernel
theorem d_M_drops_107 : decode b_M_drops 107 = .ok (.iinc 2 1, 3) := by decide +kernel
theorem d_M_drops_110 : decode b_M_drops 110 = .ok (.iinc 3 1, 3) := by decide +kernel
theorem d_M_drops_113 : decode b_M_drops 113 = .ok (.goto (-95), 3) := by decide +kernel
theorem d_M_drops_116 : decode b_M_drops 116 = .ok (.iload_n 2, 1) := by decide +kernel
theorem d_M_drops_117 : decode b_M_drops 117 = .ok (.ireturn, 1) := by decide +kernel
end
section
theorem d_A_law_0 : decode b_A_law 0 = .ok (.new 7, 3) := by decide +kernel
theorem d_A_law_3 : decode b_A_law 3 = .ok (.dup, 1) := by decide +kernel
theorem d_A_law_4 : decode b_A_law 4 = .ok (.invokespecial 9, 3) := by decide +kernel
theorem d_A_law_7 : decode b_A_law 7 = .ok (.astore_n 1, 1) := by decide +kernel
theorem d_A_law_8 : decode b_A_law 8 = .ok (.new 10, 3) := by decide +kernel
theorem d_A_law_11 : decode b_A_law 11 = .ok (.dup, 1) := by decide +kernel
theorem d_A_law_12 : decode b_A_law 12 = .ok (.invokespecial 12, 3) := by decide +kernel
theorem d_A_law_15 : decode b_A_law 15 = .ok (.astore_n 2, 1) := by decide +kernel
theorem d_A_law_16 : decode b_A_law 16 = .ok (.iconst 0, 1) := by decide +kernel
theorem d_A_law_17 : decode b_A_law 17 = .ok (.istore_n 3, 1) := by decide +kernel
theorem d_A_law_18 : decode b_A_law 18 = .ok (.iload_n 3, 1) := by decide +kernel
theorem d_A_law_19 : decode b_A_law 19 = .ok (.aload_n 0, 1) := by decide +kernel
theorem d_A_law_20 : decode b_A_law 20 = .ok (.arraylength, 1) := by decide +kernel
theorem d_A_law_21 : decode b_A_law 21 = .ok (.iconst 3, 1) := by decide +kernel
theorem d_A_law_22 : decode b_A_law 22 = .ok (.isub, 1) := by decide +kernel
theorem d_A_law_23 : decode b_A_law 23 = .ok (.if_icmp .gt 468, 3) := by decide +kernel
theorem d_A_law_26 : decode b_A_law 26 = .ok (.aload_n 0, 1) := by decide +kernel
theorem d_A_law_27 : decode b_A_law 27 = .ok (.iload_n 3, 1) := by decide +kernel
theorem d_A_law_28 : decode b_A_law 28 = .ok (.iaload, 1) := by decide +kernel
theorem d_A_law_29 : decode b_A_law 29 = .ok (.bipush 31, 2) := by decide +kernel
theorem d_A_law_31 : decode b_A_law 31 = .ok (.iand, 1) := by decide +kernel
theorem d_A_law_32 : decode b_A_law 32 = .ok (.tableswitch 453 0 16 #[84, 107, 120, 131, 144, 167, 190, 213, 226, 259, 282, 295, 318, 341, 374, 397, 430], 84) := by decide +kernel
theorem d_A_law_116 : decode b_A_law 116 = .ok (.aload_n 1, 1) := by decide +kernel
theorem d_A_law_117 : decode b_A_law 117 = .ok (.aload_n 0, 1) := by decide +kernel
theorem d_A_law_118 : decode b_A_law 118 = .ok (.iload_n 3, 1) := by decide +kernel
theorem d_A_law_119 : decode b_A_law 119 = .ok (.iconst 1, 1) := by decide +kernel
theorem d_A_law_120 : decode b_A_law 120 = .ok (.iadd, 1) := by decide +kernel
theorem d_A_law_121 : decode b_A_law 121 = .ok (.iaload, 1) := by decide +kernel
theorem d_A_law_122 : decode b_A_law 122 = .ok (.invokevirtual 13, 3) := by decide +kernel
theorem d_A_law_125 : decode b_A_law 125 = .ok (.aload_n 2, 1) := by decide +kernel
theorem d_A_law_126 : decode b_A_law 126 = .ok (.aload_n 0, 1) := by decide +kernel
theorem d_A_law_127 : decode b_A_law 127 = .ok (.iload_n 3, 1) := by decide +kernel
theorem d_A_law_128 : decode b_A_law 128 = .ok (.iconst 1, 1) := by decide +kernel
theorem d_A_law_129 : decode b_A_law 129 = .ok (.iadd, 1) := by decide +kernel
theorem d_A_law_130 : decode b_A_law 130 = .ok (.iaload, 1) := by decide +kernel
theorem d_A_law_131 : decode b_A_law 131 = .ok (.invokevirtual 17, 3) := by decide +kernel
theorem d_A_law_134 : decode b_A_law 134 = .ok (.if_icmp .eq 351, 3) := by decide +kernel
theorem d_A_law_137 : decode b_A_law 137 = .ok (.iconst 0, 1) := by decide +kernel
theorem d_A_law_138 : decode b_A_law 138 = .ok (.ireturn, 1) := by decide +kernel
theorem d_A_law_139 : decode b_A_law 139 = .ok (.aload_n 1, 1) := by decide +kernel
theorem d_A_law_140 : decode b_A_law 140 = .ok (.invokevirtual 18, 3) := by decide +kernel
theorem d_A_law_143 : decode b_A_law 143 = .ok (.aload_n 2, 1) := by decide +kernel
theorem d_A_law_144 : decode b_A_law 144 = .ok (.invokevirtual 22, 3) := by decide +kernel
theorem d_A_law_147 : decode b_A_law 147 = .ok (.if_icmp .eq 338, 3) := by decide +kernel
theorem d_A_law_150 : decode b_A_law 150 = .ok (.iconst 0, 1) := by decide +kernel
theorem d_A_law_151 : decode b_A_law 151 = .ok (.ireturn, 1) := by decide +kernel
theorem d_A_law_152 : decode b_A_law 152 = .ok (.aload_n 1, 1) := by decide +kernel
theorem d_A_law_153 : decode b_A_law 153 = .ok (.invokevirtual 23, 3) := by decide +kernel
theorem d_A_law_156 : decode b_A_law 156 = .ok (.aload_n 2, 1) := by decide +kernel
theorem d_A_law_157 : decode b_A_law 157 = .ok (.invokevirtual 26, 3) := by decide +kernel
theorem d_A_law_160 : decode b_A_law 160 = .ok (.goto 325, 3) := by decide +kernel
theorem d_A_law_163 : decode b_A_law 163 = .ok (.aload_n 1, 1) := by decide +kernel
theorem d_A_law_164 : decode b_A_law 164 = .ok (.invokevirtual 27, 3) := by decide +kernel
theorem d_A_law_167 : decode b_A_law 167 = .ok (.aload_n 2, 1) := by decide +kernel
theorem d_A_law_168 : decode b_A_law 168 = .ok (.invokevirtual 31, 3) := by decide +kernel
theorem d_A_law_171 : decode b_A_law 171 = .ok (.if_icmp .eq 314, 3) := by decide +kernel
theorem d_A_law_174 : decode b_A_law 174 = .ok (.iconst 0, 1) := by decide +kernel
theorem d_A_law_175 : decode b_A_law 175 = .ok (.ireturn, 1) := by decide +kernel
theorem d_A_law_176 : decode b_A_law 176 = .ok (.aload_n 1, 1) := by decide +kernel
theorem d_A_law_177 : decode b_A_law 177 = .ok (.aload_n 0, 1) := by decide +kernel
theorem d_A_law_178 : decode b_A_law 178 = .ok (.iload_n 3, 1) := by decide +kernel
theorem d_A_law_179 : decode b_A_law 179 = .ok (.iconst 1, 1) := by decide +kernel
theorem d_A_law_180 : decode b_A_law 180 = .ok (.iadd, 1) := by decide +kernel
theorem d_A_law_181 : decode b_A_law 181 = .ok (.iaload, 1) := by decide +kernel
theorem d_A_law_182 : decode b_A_law 182 = .ok (.invokevirtual 32, 3) := by decide +kernel
theorem d_A_law_185 : decode b_A_law 185 = .ok (.aload_n 2, 1) := by decide +kernel
theorem d_A_law_186 : decode b_A_law 186 = .ok (.aload_n 0, 1) := by decide +kernel
theorem d_A_law_187 : decode b_A_law 187 = .ok (.iload_n 3, 1) := by decide +kernel
theorem d_A_law_188 : decode b_A_law 188 = .ok (.iconst 1, 1) := by decide +kernel
theorem d_A_law_189 : decode b_A_law 189 = .ok (.iadd, 1) := by decide +kernel
theorem d_A_law_190 : decode b_A_law 190 = .ok (.iaload, 1) := by decide +kernel
theorem d_A_law_191 : decode b_A_law 191 = .ok (.invokevirtual 36, 3) := by decide +kernel
theorem d_A_law_194 : decode b_A_law 194 = .ok (.if_icmp .eq 291, 3) := by decide +kernel
theorem d_A_law_197 : decode b_A_law 197 = .ok (.iconst 0, 1) := by decide +kernel
theorem d_A_law_198 : decode b_A_law 198 = .ok (.ireturn, 1) := by decide +kernel
theorem d_A_law_199 : decode b_A_law 199 = .ok (.aload_n 1, 1) := by decide +kernel
theorem d_A_law_200 : decode b_A_law 200 = .ok (.aload_n 0, 1) := by decide +kernel
theorem d_A_law_201 : decode b_A_law 201 = .ok (.iload_n 3, 1) := by decide +kernel
theorem d_A_law_202 : decode b_A_law 202 = .ok (.iconst 1, 1) := by decide +kernel
theorem d_A_law_203 : decode b_A_law 203 = .ok (.iadd, 1) := by decide +kernel
theorem d_A_law_204 : decode b_A_law 204 = .ok (.iaload, 1) := by decide +kernel
theorem d_A_law_205 : decode b_A_law 205 = .ok (.invokevirtual 37, 3) := by decide +kernel
theorem d_A_law_208 : decode b_A_law 208 = .ok (.aload_n 2, 1) := by decide +kernel
theorem d_A_law_209 : decode b_A_law 209 = .ok (.aload_n 0, 1) := by decide +kernel
theorem d_A_law_210 : decode b_A_law 210 = .ok (.iload_n 3, 1) := by decide +kernel
theorem d_A_law_211 : decode b_A_law 211 = .ok (.iconst 1, 1) := by decide +kernel
theorem d_A_law_212 : decode b_A_law 212 = .ok (.iadd, 1) := by decide +kernel
theorem d_A_law_213 : decode b_A_law 213 = .ok (.iaload, 1) := by decide +kernel
theorem d_A_law_214 : decode b_A_law 214 = .ok (.invokevirtual 40, 3) := by decide +kernel
theorem d_A_law_217 : decode b_A_law 217 = .ok (.if_icmp .eq 268, 3) := by decide +kernel
theorem d_A_law_220 : decode b_A_law 220 = .ok (.iconst 0, 1) := by decide +kernel
theorem d_A_law_221 : decode b_A_law 221 = .ok (.ireturn, 1) := by decide +kernel
theorem d_A_law_222 : decode b_A_law 222 = .ok (.aload_n 1, 1) := by decide +kernel
theorem d_A_law_223 : decode b_A_law 223 = .ok (.aload_n 0, 1) := by decide +kernel
theorem d_A_law_224 : decode b_A_law 224 = .ok (.iload_n 3, 1) := by decide +kernel
theorem d_A_law_225 : decode b_A_law 225 = .ok (.iconst 1, 1) := by decide +kernel
theorem d_A_law_226 : decode b_A_law 226 = .ok (.iadd, 1) := by decide +kernel
theorem d_A_law_227 : decode b_A_law 227 = .ok (.iaload, 1) := by decide +kernel
theorem d_A_law_228 : decode b_A_law 228 = .ok (.invokevirtual 41, 3) := by decide +kernel
theorem d_A_law_231 : decode b_A_law 231 = .ok (.aload_n 2, 1) := by decide +kernel
theorem d_A_law_232 : decode b_A_law 232 = .ok (.aload_n 0, 1) := by decide +kernel
theorem d_A_law_233 : decode b_A_law 233 = .ok (.iload_n 3, 1) := by decide +kernel
theorem d_A_law_234 : decode b_A_law 234 = .ok (.iconst 1, 1) := by decide +kernel
theorem d_A_law_235 : decode b_A_law 235 = .ok (.iadd, 1) := by decide +kernel
theorem d_A_law_236 : decode b_A_law 236 = .ok (.iaload, 1) := by decide +kernel
theorem d_A_law_237 : decode b_A_law 237 = .ok (.invokevirtual 44, 3) := by decide +kernel
theorem d_A_law_240 : decode b_A_law 240 = .ok (.if_icmp .eq 245, 3) := by decide +kernel
theorem d_A_law_243 : decode b_A_law 243 = .ok (.iconst 0, 1) := by decide +kernel
theorem d_A_law_244 : decode b_A_law 244 = .ok (.ireturn, 1) := by decide +kernel
theorem d_A_law_245 : decode b_A_law 245 = .ok (.aload_n 1, 1) := by decide +kernel
theorem d_A_law_246 : decode b_A_law 246 = .ok (.invokevirtual 45, 3) := by decide +kernel
theorem d_A_law_249 : decode b_A_law 249 = .ok (.aload_n 2, 1) := by decide +kernel
theorem d_A_law_250 : decode b_A_law 250 = .ok (.invokevirtual 48, 3) := by decide +kernel
theorem d_A_law_253 : decode b_A_law 253 = .ok (.if_icmp .eq 232, 3) := by decide +kernel
theorem d_A_law_256 : decode b_A_law 256 = .ok (.iconst 0, 1) := by decide +kernel
theorem d_A_law_257 : decode b_A_law 257 = .ok (.ireturn, 1) := by decide +kernel
theorem d_A_law_258 : decode b_A_law 258 = .ok (.aload_n 1, 1) := by decide +kernel
theorem d_A_law_259 : decode b_A_law 259 = .ok (.aload_n 0, 1) := by decide +kernel
theorem d_A_law_260 : decode b_A_law 260 = .ok (.iload_n 3, 1) := by decide +kernel
theorem d_A_law_261 : decode b_A_law 261 = .ok (.iconst 1, 1) := by decide +kernel
theorem d_A_law_262 : decode b_A_law 262 = .ok (.iadd, 1) := by decide +kernel
theorem d_A_law_263 : decode b_A_law 263 = .ok (.iaload, 1) := by decide +kernel
theorem d_A_law_264 : decode b_A_law 264 = .ok (.aload_n 0, 1) := by decide +kernel
theorem d_A_law_265 : decode b_A_law 265 = .ok (.iload_n 3, 1) := by decide +kernel
theorem d_A_law_266 : decode b_A_law 266 = .ok (.iconst 2, 1) := by decide +kernel
theorem d_A_law_267 : decode b_A_law 267 = .ok (.iadd, 1) := by decide +kernel
theorem d_A_law_268 : decode b_A_law 268 = .ok (.iaload, 1) := by decide +kernel
theorem d_A_law_269 : decode b_A_law 269 = .ok (.invokevirtual 49, 3) := by decide +kernel
theorem d_A_law_272 : decode b_A_law 272 = .ok (.aload_n 2, 1) := by decide +kernel
theorem d_A_law_273 : decode b_A_law 273 = .ok (.aload_n 0, 1) := by decide +kernel
theorem d_A_law_274 : decode b_A_law 274 = .ok (.iload_n 3, 1) := by decide +kernel
theorem d_A_law_275 : decode b_A_law 275 = .ok (.iconst 1, 1) := by decide +kernel
theorem d_A_law_276 : decode b_A_law 276 = .ok (.iadd, 1) := by decide +kernel
theorem d_A_law_277 : decode b_A_law 277 = .ok (.iaload, 1) := by decide +kernel
theorem d_A_law_278 : decode b_A_law 278 = .ok (.aload_n 0, 1) := by decide +kernel
theorem d_A_law_279 : decode b_A_law 279 = .ok (.iload_n 3, 1) := by decide +kernel
theorem d_A_law_280 : decode b_A_law 280 = .ok (.iconst 2, 1) := by decide +kernel
theorem d_A_law_281 : decode b_A_law 281 = .ok (.iadd, 1) := by decide +kernel
theorem d_A_law_282 : decode b_A_law 282 = .ok (.iaload, 1) := by decide +kernel
theorem d_A_law_283 : decode b_A_law 283 = .ok (.invokevirtual 53, 3) := by decide +kernel
theorem d_A_law_286 : decode b_A_law 286 = .ok (.if_icmp .eq 199, 3) := by decide +kernel
theorem d_A_law_289 : decode b_A_law 289 = .ok (.iconst 0, 1) := by decide +kernel
theorem d_A_law_290 : decode b_A_law 290 = .ok (.ireturn, 1) := by decide +kernel
theorem d_A_law_291 : decode b_A_law 291 = .ok (.aload_n 1, 1) := by decide +kernel
theorem d_A_law_292 : decode b_A_law 292 = .ok (.aload_n 0, 1) := by decide +kernel
theorem d_A_law_293 : decode b_A_law 293 = .ok (.iload_n 3, 1) := by decide +kernel
theorem d_A_law_294 : decode b_A_law 294 = .ok (.iconst 1, 1) := by decide +kernel
theorem d_A_law_295 : decode b_A_law 295 = .ok (.iadd, 1) := by decide +kernel
theorem d_A_law_296 : decode b_A_law 296 = .ok (.iaload, 1) := by decide +kernel
theorem d_A_law_297 : decode b_A_law 297 = .ok (.invokevirtual 54, 3) := by decide +kernel
theorem d_A_law_300 : decode b_A_law 300 = .ok (.aload_n 2, 1) := by decide +kernel
theorem d_A_law_301 : decode b_A_law 301 = .ok (.aload_n 0, 1) := by decide +kernel
theorem d_A_law_302 : decode b_A_law 302 = .ok (.iload_n 3, 1) := by decide +kernel
theorem d_A_law_303 : decode b_A_law 303 = .ok (.iconst 1, 1) := by decide +kernel
theorem d_A_law_304 : decode b_A_law 304 = .ok (.iadd, 1) := by decide +kernel
theorem d_A_law_305 : decode b_A_law 305 = .ok (.iaload, 1) := by decide +kernel
theorem d_A_law_306 : decode b_A_law 306 = .ok (.invokevirtual 57, 3) := by decide +kernel
theorem d_A_law_309 : decode b_A_law 309 = .ok (.if_icmp .eq 176, 3) := by decide +kernel
theorem d_A_law_312 : decode b_A_law 312 = .ok (.iconst 0, 1) := by decide +kernel
theorem d_A_law_313 : decode b_A_law 313 = .ok (.ireturn, 1) := by decide +kernel
theorem d_A_law_314 : decode b_A_law 314 = .ok (.aload_n 1, 1) := by decide +kernel
theorem d_A_law_315 : decode b_A_law 315 = .ok (.invokevirtual 58, 3) := by decide +kernel
theorem d_A_law_318 : decode b_A_law 318 = .ok (.aload_n 2, 1) := by decide +kernel
theorem d_A_law_319 : decode b_A_law 319 = .ok (.invokevirtual 61, 3) := by decide +kernel
theorem d_A_law_322 : decode b_A_law 322 = .ok (.if_icmp .eq 163, 3) := by decide +kernel
theorem d_A_law_325 : decode b_A_law 325 = .ok (.iconst 0, 1) := by decide +kernel
theorem d_A_law_326 : decode b_A_law 326 = .ok (.ireturn, 1) := by decide +kernel
theorem d_A_law_327 : decode b_A_law 327 = .ok (.aload_n 1, 1) := by decide +kernel
theorem d_A_law_328 : decode b_A_law 328 = .ok (.aload_n 0, 1) := by decide +kernel
theorem d_A_law_329 : decode b_A_law 329 = .ok (.iload_n 3, 1) := by decide +kernel
theorem d_A_law_330 : decode b_A_law 330 = .ok (.iconst 1, 1) := by decide +kernel
theorem d_A_law_331 : decode b_A_law 331 = .ok (.iadd, 1) := by decide +kernel
theorem d_A_law_332 : decode b_A_law 332 = .ok (.iaload, 1) := by decide +kernel
theorem d_A_law_333 : decode b_A_law 333 = .ok (.invokevirtual 62, 3) := by decide +kernel
theorem d_A_law_336 : decode b_A_law 336 = .ok (.aload_n 2, 1) := by decide +kernel
theorem d_A_law_337 : decode b_A_law 337 = .ok (.aload_n 0, 1) := by decide +kernel
theorem d_A_law_338 : decode b_A_law 338 = .ok (.iload_n 3, 1) := by decide +kernel
theorem d_A_law_339 : decode b_A_law 339 = .ok (.iconst 1, 1) := by decide +kernel
theorem d_A_law_340 : decode b_A_law 340 = .ok (.iadd, 1) := by decide +kernel
theorem d_A_law_341 : decode b_A_law 341 = .ok (.iaload, 1) := by decide +kernel
theorem d_A_law_342 : decode b_A_law 342 = .ok (.invokevirtual 65, 3) := by decide +kernel
theorem d_A_law_345 : decode b_A_law 345 = .ok (.if_icmp .eq 140, 3) := by decide +kernel
theorem d_A_law_348 : decode b_A_law 348 = .ok (.iconst 0, 1) := by decide +kernel
theorem d_A_law_349 : decode b_A_law 349 = .ok (.ireturn, 1) := by decide +kernel
theorem d_A_law_350 : decode b_A_law 350 = .ok (.aload_n 1, 1) := by decide +kernel
theorem d_A_law_351 : decode b_A_law 351 = .ok (.aload_n 0, 1) := by decide +kernel
theorem d_A_law_352 : decode b_A_law 352 = .ok (.iload_n 3, 1) := by decide +kernel
theorem d_A_law_353 : decode b_A_law 353 = .ok (.iconst 1, 1) := by decide +kernel
theorem d_A_law_354 : decode b_A_law 354 = .ok (.iadd, 1) := by decide +kernel
theorem d_A_law_355 : decode b_A_law 355 = .ok (.iaload, 1) := by decide +kernel
theorem d_A_law_356 : decode b_A_law 356 = .ok (.invokevirtual 66, 3) := by decide +kernel
theorem d_A_law_359 : decode b_A_law 359 = .ok (.aload_n 2, 1) := by decide +kernel
theorem d_A_law_360 : decode b_A_law 360 = .ok (.aload_n 0, 1) := by decide +kernel
theorem d_A_law_361 : decode b_A_law 361 = .ok (.iload_n 3, 1) := by decide +kernel
theorem d_A_law_362 : decode b_A_law 362 = .ok (.iconst 1, 1) := by decide +kernel
theorem d_A_law_363 : decode b_A_law 363 = .ok (.iadd, 1) := by decide +kernel
theorem d_A_law_364 : decode b_A_law 364 = .ok (.iaload, 1) := by decide +kernel
theorem d_A_law_365 : decode b_A_law 365 = .ok (.invokevirtual 69, 3) := by decide +kernel
theorem d_A_law_368 : decode b_A_law 368 = .ok (.if_icmp .eq 117, 3) := by decide +kernel
theorem d_A_law_371 : decode b_A_law 371 = .ok (.iconst 0, 1) := by decide +kernel
theorem d_A_law_372 : decode b_A_law 372 = .ok (.ireturn, 1) := by decide +kernel
theorem d_A_law_373 : decode b_A_law 373 = .ok (.aload_n 1, 1) := by decide +kernel
theorem d_A_law_374 : decode b_A_law 374 = .ok (.aload_n 0, 1) := by decide +kernel
theorem d_A_law_375 : decode b_A_law 375 = .ok (.iload_n 3, 1) := by decide +kernel
theorem d_A_law_376 : decode b_A_law 376 = .ok (.iconst 1, 1) := by decide +kernel
theorem d_A_law_377 : decode b_A_law 377 = .ok (.iadd, 1) := by decide +kernel
theorem d_A_law_378 : decode b_A_law 378 = .ok (.iaload, 1) := by decide +kernel
theorem d_A_law_379 : decode b_A_law 379 = .ok (.aload_n 0, 1) := by decide +kernel
theorem d_A_law_380 : decode b_A_law 380 = .ok (.iload_n 3, 1) := by decide +kernel
theorem d_A_law_381 : decode b_A_law 381 = .ok (.iconst 2, 1) := by decide +kernel
theorem d_A_law_382 : decode b_A_law 382 = .ok (.iadd, 1) := by decide +kernel
theorem d_A_law_383 : decode b_A_law 383 = .ok (.iaload, 1) := by decide +kernel
theorem d_A_law_384 : decode b_A_law 384 = .ok (.invokevirtual 70, 3) := by decide +kernel
theorem d_A_law_387 : decode b_A_law 387 = .ok (.aload_n 2, 1) := by decide +kernel
theorem d_A_law_388 : decode b_A_law 388 = .ok (.aload_n 0, 1) := by decide +kernel
theorem d_A_law_389 : decode b_A_law 389 = .ok (.iload_n 3, 1) := by decide +kernel
theorem d_A_law_390 : decode b_A_law 390 = .ok (.iconst 1, 1) := by decide +kernel
theorem d_A_law_391 : decode b_A_law 391 = .ok (.iadd, 1) := by decide +kernel
theorem d_A_law_392 : decode b_A_law 392 = .ok (.iaload, 1) := by decide +kernel
theorem d_A_law_393 : decode b_A_law 393 = .ok (.aload_n 0, 1) := by decide +kernel
theorem d_A_law_394 : decode b_A_law 394 = .ok (.iload_n 3, 1) := by decide +kernel
theorem d_A_law_395 : decode b_A_law 395 = .ok (.iconst 2, 1) := by decide +kernel
theorem d_A_law_396 : decode b_A_law 396 = .ok (.iadd, 1) := by decide +kernel
theorem d_A_law_397 : decode b_A_law 397 = .ok (.iaload, 1) := by decide +kernel
theorem d_A_law_398 : decode b_A_law 398 = .ok (.invokevirtual 73, 3) := by decide +kernel
theorem d_A_law_401 : decode b_A_law 401 = .ok (.if_icmp .eq 84, 3) := by decide +kernel
theorem d_A_law_404 : decode b_A_law 404 = .ok (.iconst 0, 1) := by decide +kernel
theorem d_A_law_405 : decode b_A_law 405 = .ok (.ireturn, 1) := by decide +kernel
theorem d_A_law_406 : decode b_A_law 406 = .ok (.aload_n 1, 1) := by decide +kernel
theorem d_A_law_407 : decode b_A_law 407 = .ok (.aload_n 0, 1) := by decide +kernel
theorem d_A_law_408 : decode b_A_law 408 = .ok (.iload_n 3, 1) := by decide +kernel
theorem d_A_law_409 : decode b_A_law 409 = .ok (.iconst 1, 1) := by decide +kernel
theorem d_A_law_410 : decode b_A_law 410 = .ok (.iadd, 1) := by decide +kernel
theorem d_A_law_411 : decode b_A_law 411 = .ok (.iaload, 1) := by decide +kernel
theorem d_A_law_412 : decode b_A_law 412 = .ok (.invokevirtual 74, 3) := by decide +kernel
theorem d_A_law_415 : decode b_A_law 415 = .ok (.aload_n 2, 1) := by decide +kernel
theorem d_A_law_416 : decode b_A_law 416 = .ok (.aload_n 0, 1) := by decide +kernel
theorem d_A_law_417 : decode b_A_law 417 = .ok (.iload_n 3, 1) := by decide +kernel
theorem d_A_law_418 : decode b_A_law 418 = .ok (.iconst 1, 1) := by decide +kernel
theorem d_A_law_419 : decode b_A_law 419 = .ok (.iadd, 1) := by decide +kernel
theorem d_A_law_420 : decode b_A_law 420 = .ok (.iaload, 1) := by decide +kernel
theorem d_A_law_421 : decode b_A_law 421 = .ok (.invokevirtual 77, 3) := by decide +kernel
theorem d_A_law_424 : decode b_A_law 424 = .ok (.if_icmp .eq 61, 3) := by decide +kernel
theorem d_A_law_427 : decode b_A_law 427 = .ok (.iconst 0, 1) := by decide +kernel
theorem d_A_law_428 : decode b_A_law 428 = .ok (.ireturn, 1) := by decide +kernel
theorem d_A_law_429 : decode b_A_law 429 = .ok (.aload_n 1, 1) := by decide +kernel
theorem d_A_law_430 : decode b_A_law 430 = .ok (.aload_n 0, 1) := by decide +kernel
theorem d_A_law_431 : decode b_A_law 431 = .ok (.iload_n 3, 1) := by decide +kernel
theorem d_A_law_432 : decode b_A_law 432 = .ok (.iconst 1, 1) := by decide +kernel
theorem d_A_law_433 : decode b_A_law 433 = .ok (.iadd, 1) := by decide +kernel
theorem d_A_law_434 : decode b_A_law 434 = .ok (.iaload, 1) := by decide +kernel
theorem d_A_law_435 : decode b_A_law 435 = .ok (.aload_n 0, 1) := by decide +kernel
theorem d_A_law_436 : decode b_A_law 436 = .ok (.iload_n 3, 1) := by decide +kernel
theorem d_A_law_437 : decode b_A_law 437 = .ok (.iconst 2, 1) := by decide +kernel
theorem d_A_law_438 : decode b_A_law 438 = .ok (.iadd, 1) := by decide +kernel
theorem d_A_law_439 : decode b_A_law 439 = .ok (.iaload, 1) := by decide +kernel
theorem d_A_law_440 : decode b_A_law 440 = .ok (.invokevirtual 78, 3) := by decide +kernel
theorem d_A_law_443 : decode b_A_law 443 = .ok (.aload_n 2, 1) := by decide +kernel
theorem d_A_law_444 : decode b_A_law 444 = .ok (.aload_n 0, 1) := by decide +kernel
theorem d_A_law_445 : decode b_A_law 445 = .ok (.iload_n 3, 1) := by decide +kernel
theorem d_A_law_446 : decode b_A_law 446 = .ok (.iconst 1, 1) := by decide +kernel
theorem d_A_law_447 : decode b_A_law 447 = .ok (.iadd, 1) := by decide +kernel
theorem d_A_law_448 : decode b_A_law 448 = .ok (.iaload, 1) := by decide +kernel
theorem d_A_law_449 : decode b_A_law 449 = .ok (.aload_n 0, 1) := by decide +kernel
theorem d_A_law_450 : decode b_A_law 450 = .ok (.iload_n 3, 1) := by decide +kernel
theorem d_A_law_451 : decode b_A_law 451 = .ok (.iconst 2, 1) := by decide +kernel
theorem d_A_law_452 : decode b_A_law 452 = .ok (.iadd, 1) := by decide +kernel
theorem d_A_law_453 : decode b_A_law 453 = .ok (.iaload, 1) := by decide +kernel
theorem d_A_law_454 : decode b_A_law 454 = .ok (.invokevirtual 81, 3) := by decide +kernel
theorem d_A_law_457 : decode b_A_law 457 = .ok (.if_icmp .eq 28, 3) := by decide +kernel
theorem d_A_law_460 : decode b_A_law 460 = .ok (.iconst 0, 1) := by decide +kernel
theorem d_A_law_461 : decode b_A_law 461 = .ok (.ireturn, 1) := by decide +kernel
theorem d_A_law_462 : decode b_A_law 462 = .ok (.aload_n 1, 1) := by decide +kernel
theorem d_A_law_463 : decode b_A_law 463 = .ok (.aload_n 0, 1) := by decide +kernel
theorem d_A_law_464 : decode b_A_law 464 = .ok (.iload_n 3, 1) := by decide +kernel
theorem d_A_law_465 : decode b_A_law 465 = .ok (.iconst 1, 1) := by decide +kernel
theorem d_A_law_466 : decode b_A_law 466 = .ok (.iadd, 1) := by decide +kernel
theorem d_A_law_467 : decode b_A_law 467 = .ok (.iaload, 1) := by decide +kernel
theorem d_A_law_468 : decode b_A_law 468 = .ok (.invokevirtual 82, 3) := by decide +kernel
theorem d_A_law_471 : decode b_A_law 471 = .ok (.aload_n 2, 1) := by decide +kernel
theorem d_A_law_472 : decode b_A_law 472 = .ok (.aload_n 0, 1) := by decide +kernel
theorem d_A_law_473 : decode b_A_law 473 = .ok (.iload_n 3, 1) := by decide +kernel
theorem d_A_law_474 : decode b_A_law 474 = .ok (.iconst 1, 1) := by decide +kernel
theorem d_A_law_475 : decode b_A_law 475 = .ok (.iadd, 1) := by decide +kernel
theorem d_A_law_476 : decode b_A_law 476 = .ok (.iaload, 1) := by decide +kernel
theorem d_A_law_477 : decode b_A_law 477 = .ok (.invokevirtual 85, 3) := by decide +kernel
theorem d_A_law_480 : decode b_A_law 480 = .ok (.if_icmp .eq 5, 3) := by decide +kernel
theorem d_A_law_483 : decode b_A_law 483 = .ok (.iconst 0, 1) := by decide +kernel
theorem d_A_law_484 : decode b_A_law 484 = .ok (.ireturn, 1) := by decide +kernel
theorem d_A_law_485 : decode b_A_law 485 = .ok (.iinc 3 3, 3) := by decide +kernel
theorem d_A_law_488 : decode b_A_law 488 = .ok (.goto (-470), 3) := by decide +kernel
theorem d_A_law_491 : decode b_A_law 491 = .ok (.iconst 1, 1) := by decide +kernel
theorem d_A_law_492 : decode b_A_law 492 = .ok (.ireturn, 1) := by decide +kernel
end
section
/-! worlds by roles: role k lies at address ad k and holds en k, for k below N; all lie at b0 or behind; whole worlds go through every call -/
abbrev zG : Type := va_G × Nat × ClassId × ClassId × ClassId × ClassId
abbrev zb (G : zG) : Nat := G.2.1
abbrev zI (G : zG) : ClassId := G.2.2.1
abbrev zJ (G : zG) : ClassId := G.2.2.2.1
abbrev zO (G : zG) : ClassId := G.2.2.2.2.1
abbrev zM (G : zG) : ClassId := G.2.2.2.2.2
abbrev ztys (G : zG) : List (ClassId × FieldType) := [(zI G, .int), (zJ G, .long), (zO G, .object R_W), (zM G, .array .int)]
abbrev zA (G : zG) : Nat → Prop := fun q => zb G ≤ q
def zl (ad : Nat → Nat) (en : Nat → va_E) (N : Nat) : va_W := (List.range N).map fun k => (ad k, en k)
theorem zl_get {ad : Nat → Nat} {en : Nat → va_E} {N k : Nat} (h : k < N) : (zl ad en N)[k]? = some (ad k, en k) := by simp [zl, h]
theorem zl_set {ad : Nat → Nat} {en : Nat → va_E} {N k : Nat} (h : k < N) (e : va_E) : (zl ad en N).set k (ad k, e) = zl ad (va_up en k e) N := by
  apply List.ext_getElem?
  intro i
  by_cases hi : i = k
  · subst hi
    rw [List.getElem?_set_self (by simp [zl, h]), zl_get h, va_up_self]
  · rw [List.getElem?_set_ne (Ne.symm hi)]
    by_cases hN : i < N
    · rw [zl_get hN, zl_get hN, va_up_ne en e hi]
    · rw [List.getElem?_eq_none (by simp [zl]; omega), List.getElem?_eq_none (by simp [zl]; omega)]
theorem zl_push {ad : Nat → Nat} {en : Nat → va_E} {N q : Nat} {e : va_E} : zl ad en N ++ [(q, e)] = zl (va_up ad N q) (va_up en N e) (N + 1) := by
  unfold zl
  rw [List.range_succ, List.map_append, List.map_cons, List.map_nil, va_up_self, va_up_self]
  congr 1
  refine List.map_congr_left (fun k hk => ?_)
  have hk := List.mem_range.mp hk
  rw [va_up_ne _ _ (by omega), va_up_ne _ _ (by omega)]
/-- the world, of a state and a heap -/
def zW (G : zG) (ad : Nat → Nat) (en : Nat → va_E) (N : Nat) (U : State) (H : Heap) : Prop := va_K G.1 classes (ztys G) U ∧ va_P G.1 classes (zl ad en N) H ∧ va_D (zA G) (zl ad en N) ∧ zb G ≤ H.size
/-- what is known of the tables beside zz: private fields of nest mates, arrays of words, arrays of arrays -/
def zX (U : State) : Prop := (∀ w ∈ zn, va_Nw w U) ∧ va_AO R_W U ∧ (Cond.arrayOver (.array .int)).before #[] U = true
theorem zX.warm {s U : State} (hW : s.WarmedH U.vm) (h : zX s) : zX U := by
  refine ⟨?_, h.2.1.moved hW.alike, over_moved hW.alike h.2.2⟩
  have h1 := h.1
  unfold zn at h1 ⊢
  simp only [List.forall_mem_cons] at h1 ⊢
  obtain ⟨a1, a2, a3, a4, a5, a6, -⟩ := h1
  exact ⟨va_Nw.warmF hW a1, va_Nw.warmF hW a2, va_Nw.warmF hW a3, va_Nw.warmF hW a4, va_Nw.warmF hW a5, va_Nw.warmF hW a6, fun _ h => absurd h List.not_mem_nil⟩
theorem zX.same {s U : State} (hv : s.vm = U.vm) (h : zX s) : zX U := by
  refine ⟨?_, h.2.1.moved (by rw [hv]; exact Vm.Alike.refl _), over_moved (by rw [hv]; exact Vm.Alike.refl _) h.2.2⟩
  have h1 := h.1
  unfold zn at h1 ⊢
  simp only [List.forall_mem_cons] at h1 ⊢
  obtain ⟨a1, a2, a3, a4, a5, a6, -⟩ := h1
  exact ⟨va_Nw.same rfl hv a1, va_Nw.same rfl hv a2, va_Nw.same rfl hv a3, va_Nw.same rfl hv a4, va_Nw.same rfl hv a5, va_Nw.same rfl hv a6, fun _ h => absurd h List.not_mem_nil⟩
def zH (G : zG) (ad : Nat → Nat) (en : Nat → va_E) (N : Nat) (s : State) (H : Heap) (locs : List Loc) : Prop := zW G ad en N s H ∧ va_S (zA G) s.heap H locs ∧ zb G ≤ s.heap.size ∧ zX s
def zP (G : zG) (ad : Nat → Nat) (en : Nat → va_E) (N : Nat) (as : List Value) : Array Value → State → Prop := va_Pc as (fun U => zW G ad en N U U.heap ∧ zX U)
def zQi (G : zG) (ad : Nat → Nat) (N : Nat) (post : Int32 → (Nat → va_E) → Prop) : Array Value → State → Outcome → State → Prop := va_Qi post (fun en t => zW G ad en N t t.heap) (zA G)
def zQl (G : zG) (ad : Nat → Nat) (N : Nat) (post : Int64 → (Nat → va_E) → Prop) : Array Value → State → Outcome → State → Prop := va_Ql post (fun en t => zW G ad en N t t.heap) (zA G)
def zQv (G : zG) (ad : Nat → Nat) (N : Nat) (post : (Nat → va_E) → Prop) : Array Value → State → Outcome → State → Prop := va_Qv post (fun en t => zW G ad en N t t.heap) (zA G)
def zQr (G : zG) (ad : Nat → Nat) (N : Nat) (post : Nat → (Nat → va_E) → Prop) : Array Value → State → Outcome → State → Prop := va_Qr (fun _ : Nat → va_E => True) (fun en a t => post a en ∧ zW G ad en N t t.heap) (zA G)
/-- a constructor's end: roles were added -/
def zQn (G : zG) (post : (Nat → Nat) → (Nat → va_E) → Nat → Prop) : Array Value → State → Outcome → State → Prop := va_Qv (fun u : (Nat → Nat) × (Nat → va_E) × Nat => post u.1 u.2.1 u.2.2) (fun u t => zW G u.1 u.2.1 u.2.2 t t.heap) (zA G)
abbrev zR (d : Nat) : Room := { frames := d, cells := 0, slots := 0, locals := 40 * d }
abbrev zRn (d mc ms : Nat) : Room := { frames := d, cells := mc, slots := ms, locals := 40 * d }
/-- a method's contract: at depth d, from the world en, with the values as -/
abbrev zMi (l : Launch) (y : MethodName) (b : ByteArray) (n : Nat) (r : FieldType) (d : Nat) (G : zG) (ad : Nat → Nat) (en : Nat → va_E) (N : Nat) (as : List Value) (post : Int32 → (Nat → va_E) → Prop) : Prop := Met l y (.code y b n (some r) :: zz) (zR d) (zP G ad en N as) (zQi G ad N post) 0 0 (zA G)
abbrev zMl (l : Launch) (y : MethodName) (b : ByteArray) (n : Nat) (d : Nat) (G : zG) (ad : Nat → Nat) (en : Nat → va_E) (N : Nat) (as : List Value) (post : Int64 → (Nat → va_E) → Prop) : Prop := Met l y (.code y b n (some .long) :: zz) (zR d) (zP G ad en N as) (zQl G ad N post) 0 0 (zA G)
abbrev zMv (l : Launch) (y : MethodName) (b : ByteArray) (n : Nat) (d : Nat) (G : zG) (ad : Nat → Nat) (en : Nat → va_E) (N : Nat) (as : List Value) (post : (Nat → va_E) → Prop) : Prop := Met l y (.code y b n none :: zz) (zR d) (zP G ad en N as) (zQv G ad N post) 0 0 (zA G)
abbrev zMr (l : Launch) (y : MethodName) (b : ByteArray) (n : Nat) (r : FieldType) (d : Nat) (G : zG) (ad : Nat → Nat) (en : Nat → va_E) (N : Nat) (as : List Value) (post : Nat → (Nat → va_E) → Prop) : Prop := Met l y (.code y b n (some r) :: zz) (zR d) (zP G ad en N as) (zQr G ad N post) 0 0 (zA G)
abbrev zMn (l : Launch) (y : MethodName) (b : ByteArray) (n : Nat) (d mc ms : Nat) (G : zG) (ad : Nat → Nat) (en : Nat → va_E) (N : Nat) (as : List Value) (post : (Nat → Nat) → (Nat → va_E) → Nat → Prop) : Prop := Met l y (.code y b n none :: zz) (zRn d mc ms) (zP G ad en N as) (zQn G post) mc ms (zA G)
theorem zW.moved {G : zG} {ad : Nat → Nat} {en : Nat → va_E} {N : Nat} {u U : State} {H : Heap} (h : zW G ad en N u H) (hvm : u.vm.Alike U.vm) : zW G ad en N U H := ⟨va_K.moved hvm h.1, h.2⟩
theorem zH.start {G : zG} {ad : Nat → Nat} {en : Nat → va_E} {N : Nat} {s : State} (h : zW G ad en N s s.heap ∧ zX s) : zH G ad en N s s.heap [] := ⟨h.1, va_S.rf, h.1.2.2.2, h.2⟩
theorem zP.blind {G : zG} {ad : Nat → Nat} {en : Nat → va_E} {N : Nat} {as : List Value} : FrameBlind (zP G ad en N as) := fun a U g mk q => ⟨q.1, q.2.1.moved (u := U) (U := U.calling g mk a) (Vm.Alike.refl U.vm), q.2.2.same (s := U) (U := U.calling g mk a) rfl⟩
theorem zH.pre {G : zG} {ad : Nat → Nat} {en : Nat → va_E} {N : Nat} {s : State} {H : Heap} {locs : List Loc} {as : List Value} (h : zH G ad en N s H locs) : ∀ U : State, U.heap = H → s.WarmedH U.vm → zP G ad en N as as.toArray U := fun U hU hW => ⟨rfl, by rw [hU]; exact h.1.moved hW.alike, h.2.2.2.warm hW⟩
theorem zgood {c0 : Cond} {y : MethodName} {b : ByteArray} {n : Nat} {r : Option FieldType} (hy : Cond.code y b n r ∈ zz) : GoodIn (c0 :: zz) (.code y b n r :: zz) := by
  intro w hw
  rcases List.mem_cons.mp hw with rfl | hw
  · exact ⟨List.mem_cons_of_mem _ hy, zz_good _ hy⟩
  · exact ⟨List.mem_cons_of_mem _ hw, zz_good _ hw⟩
theorem zgood0 {y : MethodName} {b : ByteArray} {n : Nat} {r : Option FieldType} (hy : Cond.code y b n r ∈ zz) : GoodIn zz (.code y b n r :: zz) := by
  intro w hw
  rcases List.mem_cons.mp hw with rfl | hw
  · exact ⟨hy, zz_good _ hy⟩
  · exact ⟨hw, zz_good _ hw⟩
section Z
variable {p : Program} {l : Launch} {e : Env} {R : Room} {s : State} {m : MethodId} {args : Array Value} {below : List Frame} {meth : Method} {c : Code} {H : Heap} {locs : List Loc} {cells slots : Nat} {Q : State → Prop}
variable {cc : ByteArray} {pc nL index : Nat} {ls : Array Slot} {rest st0 : List Value} {G : zG} {ad : Nat → Nat} {en : Nat → va_E} {N : Nat} {own : String}
theorem z_get {C : String} {T : u_T} {n ci : Nat} (hF : CallFix p m c cc nL s args zz own) (hZ : zH G ad en N s H locs) (hin : ∀ w ∈ u_ws C T n, w ∈ zz) (hc : classes[ci]? = some (C, T, n)) (j : Nat) (hj : j < n) (hd : (T j).1 = C)
    (hlink : Cond.fieldLink own index C (T j).2.1 (T j).2.2.1 ∈ zz) (k : Nat) (hk : k < N) {fs : List Value} (he : en k = .inr (ci, fs)) {v : Value} (hv : fs[j]? = some v) (hdg : decode cc pc = .ok (.getfield index, 3))
    (kk : W p l e R s m args below meth c H locs cells slots Q (F0 m (pc + 3) ls (v :: rest))) : W p l e R s m args below meth c H locs cells slots Q (F0 m pc ls (.ref (ad k) :: rest)) := by
  obtain ⟨hx, hb, -, hown, hts⟩ := hF
  have hg := zl_get (ad := ad) (en := en) hk
  rw [he] at hg
  exact va_get (D := G.1) hx hb hts hin hown hZ.1.1 hZ.1.2.1 k hg hc j hj (hts _ hlink) (fun _ h => by rw [hd] at h; exact h) hv hdg kk
theorem z_getN {host C : String} {T : u_T} {n ci : Nat} (hF : CallFix p m c cc nL s args zz own) (hZ : zH G ad en N s H locs) (hin : ∀ w ∈ u_ws C T n, w ∈ zz) (hc : classes[ci]? = some (C, T, n)) (j : Nat) (hj : j < n) (hd : (T j).1 = C)
    (hlink : Cond.fieldLinkNest own index C (T j).2.1 (T j).2.2.1 host ∈ zn) (k : Nat) (hk : k < N) {fs : List Value} (he : en k = .inr (ci, fs)) {v : Value} (hv : fs[j]? = some v) (hdg : decode cc pc = .ok (.getfield index, 3))
    (kk : W p l e R s m args below meth c H locs cells slots Q (F0 m (pc + 3) ls (v :: rest))) : W p l e R s m args below meth c H locs cells slots Q (F0 m pc ls (.ref (ad k) :: rest)) := by
  obtain ⟨hx, hb, -, hown, hts⟩ := hF
  have hg := zl_get (ad := ad) (en := en) hk
  rw [he] at hg
  exact va_getN (D := G.1) hx hb hts hin hown hZ.1.1 hZ.1.2.1 k hg hc j hj (va_Nw.use rfl (hZ.2.2.2.1 _ hlink)) (fun _ h => by rw [hd] at h; exact h) hv hdg kk
theorem z_put {C : String} {T : u_T} {n ci : Nat} (ty0 : Nat → FieldType) (hF : CallFix p m c cc nL s args zz own) (hZ : zH G ad en N s H locs) (hin : ∀ w ∈ u_ws C T n, w ∈ zz) (hty : ∀ k, k < n → parseFieldDescriptor (T k).2.2.1 = some (ty0 k)) (hnm : ∀ a, a < n → ∀ b, b < n → a ≠ b → (T a).2.1 ≠ (T b).2.1) (hc : classes[ci]? = some (C, T, n)) (j : Nat) (hj : j < n) (hd : (T j).1 = C) (hfin : (T j).2.2.2 = false)
    (hlink : Cond.fieldLink own index C (T j).2.1 (T j).2.2.1 ∈ zz) (k : Nat) (hk : k < N) {fs : List Value} (he : en k = .inr (ci, fs)) {ty : FieldType} {v : Value} (hpd : parseFieldDescriptor (T j).2.2.1 = some ty) (hn : narrow ty v = v) (hfit : fits ty v = true) (hl : j < fs.length) (hdg : decode cc pc = .ok (.putfield index, 3))
    (kk : ∀ (H1 : Heap) (locs1 : List Loc), zH G ad (va_up en k (.inr (ci, fs.set j v))) N s H1 locs1 → W p l e R s m args below meth c H1 locs1 cells slots Q (F0 m (pc + 3) ls rest)) : W p l e R s m args below meth c H locs cells slots Q (F0 m pc ls (v :: .ref (ad k) :: rest)) := by
  obtain ⟨hx, hb, -, hown, hts⟩ := hF
  obtain ⟨⟨hK, hP, hD, hz⟩, hS, hz0⟩ := hZ
  have hg := zl_get (ad := ad) (en := en) hk
  rw [he] at hg
  refine va_put (D := G.1) hx hb hts hin ty0 hty hnm hown hK hP hD hS k hg hc j hj (hts _ hlink) (fun _ h => by rw [hd] at h; exact h) hfin hpd hn hfit hl hdg (fun H1 locs1 h1 h2 h3 => ?_)
  rw [zl_set hk] at h1 h2
  exact kk H1 locs1 ⟨⟨hK, h1, h2, Nat.le_trans hz0.1 h3.1⟩, h3, hz0⟩
theorem z_putN {host C : String} {T : u_T} {n ci : Nat} (ty0 : Nat → FieldType) (hF : CallFix p m c cc nL s args zz own) (hZ : zH G ad en N s H locs) (hin : ∀ w ∈ u_ws C T n, w ∈ zz) (hty : ∀ k, k < n → parseFieldDescriptor (T k).2.2.1 = some (ty0 k)) (hnm : ∀ a, a < n → ∀ b, b < n → a ≠ b → (T a).2.1 ≠ (T b).2.1) (hc : classes[ci]? = some (C, T, n)) (j : Nat) (hj : j < n) (hd : (T j).1 = C) (hfin : (T j).2.2.2 = false)
    (hlink : Cond.fieldLinkNest own index C (T j).2.1 (T j).2.2.1 host ∈ zn) (k : Nat) (hk : k < N) {fs : List Value} (he : en k = .inr (ci, fs)) {ty : FieldType} {v : Value} (hpd : parseFieldDescriptor (T j).2.2.1 = some ty) (hn : narrow ty v = v) (hfit : fits ty v = true) (hl : j < fs.length) (hdg : decode cc pc = .ok (.putfield index, 3))
    (kk : ∀ (H1 : Heap) (locs1 : List Loc), zH G ad (va_up en k (.inr (ci, fs.set j v))) N s H1 locs1 → W p l e R s m args below meth c H1 locs1 cells slots Q (F0 m (pc + 3) ls rest)) : W p l e R s m args below meth c H locs cells slots Q (F0 m pc ls (v :: .ref (ad k) :: rest)) := by
  obtain ⟨hx, hb, -, hown, hts⟩ := hF
  obtain ⟨⟨hK, hP, hD, hz⟩, hS, hz0⟩ := hZ
  have hg := zl_get (ad := ad) (en := en) hk
  rw [he] at hg
  refine va_putN (D := G.1) hx hb hts hin ty0 hty hnm hown hK hP hD hS k hg hc j hj (va_Nw.use rfl (hz0.2.1 _ hlink)) (fun _ h => by rw [hd] at h; exact h) hfin hpd hn hfit hl hdg (fun H1 locs1 h1 h2 h3 => ?_)
  rw [zl_set hk] at h1 h2
  exact kk H1 locs1 ⟨⟨hK, h1, h2, Nat.le_trans hz0.1 h3.1⟩, h3, hz0⟩
theorem z_putF {C : String} {T : u_T} {n ci : Nat} (ty0 : Nat → FieldType) (hF : CallFix p m c cc nL s args zz C) (hZ : zH G ad en N s H locs) (hin : ∀ w ∈ u_ws C T n, w ∈ zz) (hty : ∀ k, k < n → parseFieldDescriptor (T k).2.2.1 = some (ty0 k)) (hnm : ∀ a, a < n → ∀ b, b < n → a ≠ b → (T a).2.1 ≠ (T b).2.1) (hc : classes[ci]? = some (C, T, n)) (j : Nat) (hj : j < n) (hd : (T j).1 = C) (hfin : (T j).2.2.2 = true)
    (hlink : Cond.fieldLink C index C (T j).2.1 (T j).2.2.1 ∈ zz) (hnam : meth.name = "<init>") (k : Nat) (hk : k < N) {fs : List Value} (he : en k = .inr (ci, fs)) {ty : FieldType} {v : Value} (hpd : parseFieldDescriptor (T j).2.2.1 = some ty) (hn : narrow ty v = v) (hfit : fits ty v = true) (hl : j < fs.length) (hdg : decode cc pc = .ok (.putfield index, 3))
    (kk : ∀ (H1 : Heap) (locs1 : List Loc), zH G ad (va_up en k (.inr (ci, fs.set j v))) N s H1 locs1 → W p l e R s m args below meth c H1 locs1 cells slots Q (F0 m (pc + 3) ls rest)) : W p l e R s m args below meth c H locs cells slots Q (F0 m pc ls (v :: .ref (ad k) :: rest)) := by
  obtain ⟨hx, hb, -, hown, hts⟩ := hF
  obtain ⟨⟨hK, hP, hD, hz⟩, hS, hz0⟩ := hZ
  have hg := zl_get (ad := ad) (en := en) hk
  rw [he] at hg
  refine va_putF (D := G.1) hx hb hts hin ty0 hty hnm hown hK hP hD hS k hg hc j hj (hts _ hlink) (fun _ h => by rw [hd] at h; exact h) hfin hnam hd hpd hn hfit hl hdg (fun H1 locs1 h1 h2 h3 => ?_)
  rw [zl_set hk] at h1 h2
  exact kk H1 locs1 ⟨⟨hK, h1, h2, Nat.le_trans hz0.1 h3.1⟩, h3, hz0⟩
/-- arrays, at an index that is a number inside -/
theorem z_iald (hF : CallFix p m c cc nL s args zz own) (hZ : zH G ad en N s H locs) (k : Nat) (hk : k < N) {n : Nat} {f : Nat → Int32} (he : en k = .inl (zI G, n, .inl f)) (j : Nat) (hj : j < n) (hn : n < 2 ^ 31) (hdg : decode cc pc = .ok (.iaload, 1))
    (kk : W p l e R s m args below meth c H locs cells slots Q (F0 m (pc + 1) ls (.int (f j) :: rest))) : W p l e R s m args below meth c H locs cells slots Q (F0 m pc ls (.int (nI j) :: .ref (ad k) :: rest)) := by
  have hg := zl_get (ad := ad) (en := en) hk
  rw [he] at hg
  refine va_iald (D := G.1) hF.1 hF.2.1 hZ.1.1 hZ.1.2.1 k 0 hg rfl (vp_in_nI hj hn) hdg ?_
  rw [nI_clamp (by omega)]
  exact kk
theorem z_iast (hF : CallFix p m c cc nL s args zz own) (hZ : zH G ad en N s H locs) (k : Nat) (hk : k < N) {n : Nat} {f : Nat → Int32} (he : en k = .inl (zI G, n, .inl f)) (j : Nat) (hj : j < n) (hn : n < 2 ^ 31) {x : Int32} (hdg : decode cc pc = .ok (.iastore, 1))
    (kk : ∀ (H1 : Heap) (locs1 : List Loc), zH G ad (va_up en k (.inl (zI G, n, .inl (upd f j x)))) N s H1 locs1 → W p l e R s m args below meth c H1 locs1 cells slots Q (F0 m (pc + 1) ls rest)) : W p l e R s m args below meth c H locs cells slots Q (F0 m pc ls (.int x :: .int (nI j) :: .ref (ad k) :: rest)) := by
  obtain ⟨⟨hK, hP, hD, hz⟩, hS, hz0⟩ := hZ
  have hg := zl_get (ad := ad) (en := en) hk
  rw [he] at hg
  refine va_iast (D := G.1) hF.1 hF.2.1 hK hP hD hS k 0 hg rfl (vp_in_nI hj hn) hdg (fun H1 locs1 h1 h2 h3 => ?_)
  rw [zl_set hk, nI_clamp (by omega)] at h1 h2
  exact kk H1 locs1 ⟨⟨hK, h1, h2, Nat.le_trans hz0.1 h3.1⟩, h3, hz0⟩
theorem z_lald (hF : CallFix p m c cc nL s args zz own) (hZ : zH G ad en N s H locs) (k : Nat) (hk : k < N) {n : Nat} {f : Nat → Int64} (he : en k = .inl (zJ G, n, .inr (.inl f))) (j : Nat) (hj : j < n) (hn : n < 2 ^ 31) (hdg : decode cc pc = .ok (.laload, 1))
    (kk : W p l e R s m args below meth c H locs cells slots Q (F0 m (pc + 1) ls (.long (f j) :: rest))) : W p l e R s m args below meth c H locs cells slots Q (F0 m pc ls (.int (nI j) :: .ref (ad k) :: rest)) := by
  have hg := zl_get (ad := ad) (en := en) hk
  rw [he] at hg
  refine va_lald (D := G.1) hF.1 hF.2.1 hZ.1.1 hZ.1.2.1 k 1 hg rfl (vp_in_nI hj hn) hdg ?_
  rw [nI_clamp (by omega)]
  exact kk
theorem z_last (hF : CallFix p m c cc nL s args zz own) (hZ : zH G ad en N s H locs) (k : Nat) (hk : k < N) {n : Nat} {f : Nat → Int64} (he : en k = .inl (zJ G, n, .inr (.inl f))) (j : Nat) (hj : j < n) (hn : n < 2 ^ 31) {x : Int64} (hdg : decode cc pc = .ok (.lastore, 1))
    (kk : ∀ (H1 : Heap) (locs1 : List Loc), zH G ad (va_up en k (.inl (zJ G, n, .inr (.inl (vp_updL f j x))))) N s H1 locs1 → W p l e R s m args below meth c H1 locs1 cells slots Q (F0 m (pc + 1) ls rest)) : W p l e R s m args below meth c H locs cells slots Q (F0 m pc ls (.long x :: .int (nI j) :: .ref (ad k) :: rest)) := by
  obtain ⟨⟨hK, hP, hD, hz⟩, hS, hz0⟩ := hZ
  have hg := zl_get (ad := ad) (en := en) hk
  rw [he] at hg
  refine va_last (D := G.1) hF.1 hF.2.1 hK hP hD hS k 1 hg rfl (vp_in_nI hj hn) hdg (fun H1 locs1 h1 h2 h3 => ?_)
  rw [zl_set hk, nI_clamp (by omega)] at h1 h2
  exact kk H1 locs1 ⟨⟨hK, h1, h2, Nat.le_trans hz0.1 h3.1⟩, h3, hz0⟩
/-- words: an array of references to roles -/
theorem z_oald (hF : CallFix p m c cc nL s args zz own) (hZ : zH G ad en N s H locs) (k : Nat) (hk : k < N) {n : Nat} {f : Nat → Option Nat} (he : en k = .inl (zO G, n, .inr (.inr (.inr (.inr f))))) (j : Nat) (hj : j < n) (hn : n < 2 ^ 31) {a : Nat} (hv : f j = some a) (hdg : decode cc pc = .ok (.aaload, 1))
    (kk : W p l e R s m args below meth c H locs cells slots Q (F0 m (pc + 1) ls (.ref a :: rest))) : W p l e R s m args below meth c H locs cells slots Q (F0 m pc ls (.int (nI j) :: .ref (ad k) :: rest)) := by
  have hg := zl_get (ad := ad) (en := en) hk
  rw [he] at hg
  refine va_aldq (D := G.1) hF.1 hF.2.1 hZ.1.1 hZ.1.2.1 k 2 hg rfl (vp_in_nI hj hn) hdg ?_
  rw [nI_clamp (by omega), hv]
  exact kk
theorem z_oast (hF : CallFix p m c cc nL s args zz own) (hZ : zH G ad en N s H locs) (k : Nat) (hk : k < N) {n : Nat} {f : Nat → Option Nat} (he : en k = .inl (zO G, n, .inr (.inr (.inr (.inr f))))) (j : Nat) (hj : j < n) (hn : n < 2 ^ 31) (k2 : Nat) (hk2 : k2 < N) {ci : Nat} {vs : List Value} (he2 : en k2 = .inr (ci, vs)) {r : vw_C} (hc : classes[ci]? = some r) (hr : r.1 = R_W) (hdg : decode cc pc = .ok (.aastore, 1))
    (kk : ∀ (H1 : Heap) (locs1 : List Loc), zH G ad (va_up en k (.inl (zO G, n, .inr (.inr (.inr (.inr (va_up f j (some (ad k2))))))))) N s H1 locs1 → W p l e R s m args below meth c H1 locs1 cells slots Q (F0 m (pc + 1) ls rest)) : W p l e R s m args below meth c H locs cells slots Q (F0 m pc ls (.ref (ad k2) :: .int (nI j) :: .ref (ad k) :: rest)) := by
  obtain ⟨⟨hK, hP, hD, hz⟩, hS, hz0⟩ := hZ
  have hg := zl_get (ad := ad) (en := en) hk
  rw [he] at hg
  have hg2 := zl_get (ad := ad) (en := en) hk2
  rw [he2] at hg2
  refine va_astq (D := G.1) hF.1 hF.2.1 hK hP hD hS k 2 k2 ci (r := r) hg (by rw [hr]; rfl) hg2 hc (vp_in_nI hj hn) hdg (fun H1 locs1 h1 h2 h3 => ?_)
  rw [zl_set hk, nI_clamp (by omega)] at h1 h2
  exact kk H1 locs1 ⟨⟨hK, h1, h2, Nat.le_trans hz0.1 h3.1⟩, h3, hz0⟩
/-- rows of a table of ints -/
theorem z_mald (hF : CallFix p m c cc nL s args zz own) (hZ : zH G ad en N s H locs) (k : Nat) (hk : k < N) {n : Nat} {f : Nat → Option Nat} (he : en k = .inl (zM G, n, .inr (.inr (.inr (.inr f))))) (j : Nat) (hj : j < n) (hn : n < 2 ^ 31) {a : Nat} (hv : f j = some a) (hdg : decode cc pc = .ok (.aaload, 1))
    (kk : W p l e R s m args below meth c H locs cells slots Q (F0 m (pc + 1) ls (.ref a :: rest))) : W p l e R s m args below meth c H locs cells slots Q (F0 m pc ls (.int (nI j) :: .ref (ad k) :: rest)) := by
  have hg := zl_get (ad := ad) (en := en) hk
  rw [he] at hg
  have hlt : (nI j).toNatClampNeg = j := nI_clamp (by omega)
  exact W.aald (v := .ref a) (ty := .array .int) hF.1 hF.2.1 (hZ.1.2.1 k _ hg) ((hZ.1.1.2 3 _ rfl).1 n (fun j => va_rf (f j))) rfl (fun q => by cases q) (by show ¬ (nI j < 0 ∨ (arrV _ _ _).slots.size ≤ _); rw [arrV_size]; exact vp_in_nI hj hn) (by show (arrV _ _ _).slots[_]? = _; rw [hlt, arrV_read _ _ hj, hv]; rfl) rfl rfl hdg kk
theorem z_alen (hF : CallFix p m c cc nL s args zz own) (hZ : zH G ad en N s H locs) (k : Nat) (hk : k < N) {n : Nat} {f : Nat → Int32} (he : en k = .inl (zI G, n, .inl f)) (hdg : decode cc pc = .ok (.arraylength, 1))
    (kk : W p l e R s m args below meth c H locs cells slots Q (F0 m (pc + 1) ls (.int (nI n) :: rest))) : W p l e R s m args below meth c H locs cells slots Q (F0 m pc ls (.ref (ad k) :: rest)) := by
  have hg := zl_get (ad := ad) (en := en) hk
  rw [he] at hg
  exact va_alen (D := G.1) hF.1 hF.2.1 hZ.1.1 hZ.1.2.1 k 0 hg rfl rfl hdg kk
theorem z_recv (hZ : zH G ad en N s H locs) (k : Nat) (hk : k < N) {ci : Nat} {fs : List Value} (he : en k = .inr (ci, fs)) {q : vw_C} (hc : classes[ci]? = some q) : ∃ cell : Cell, H[ad k]? = some cell ∧ cell.vm.isStatics = false ∧ s.vm.findClass q.1 = some cell.cls := by
  have hg := zl_get (ad := ad) (en := en) hk
  rw [he] at hg
  exact va_recv hZ.1.1 hZ.1.2.1 hc hg
/-- what a call of a method of the class C needs of the words -/
def zcw (own C : String) (index : Nat) (y : MethodName) (b : ByteArray) (nn : Nat) (r : Option FieldType) (n : Nat) : Prop := Cond.code y b nn r ∈ zz ∧ Cond.methodLink own index y ∈ zz ∧ Cond.initialized y.cls ∈ zz ∧ Cond.instanceMethod y ∈ zz ∧ Cond.selects C y y ∈ zz ∧ y.cls ≠ "java/lang/invoke/MethodHandle" ∧ y.cls ≠ "java/lang/invoke/VarHandle" ∧ (parseMethodDescriptor y.desc).map (fun d => d.parameters.length) = some n
theorem z_run {C : String} {y : MethodName} {b : ByteArray} {nn n d : Nat} {r : Option FieldType} {As : List Value} {Qc : Array Value → State → Outcome → State → Prop} (hcw : zcw own C index y b nn r n) (hF : CallFix p m c cc nL s args zz own) (hZ : zH G ad en N s H locs) (k : Nat) (hM : Met l y (.code y b nn r :: zz) (zR d) (zP G ad en N (.ref (ad k) :: As)) Qc 0 0 (zA G))
    (hR : d + 1 ≤ R.frames ∧ 8 + (nn + 11) + 40 * d ≤ R.locals ∧ cells ≤ R.cells ∧ slots ≤ R.slots) (hk : k < N) {ci : Nat} {fs : List Value} (he : en k = .inr (ci, fs)) {T : u_T} {nf : Nat} (hc : classes[ci]? = some (C, T, nf)) (hn : As.length = n) (hsz : ls.size = nL) (hst : st0 = As.reverse ++ .ref (ad k) :: rest) (hrs : (rest.map fun v => v.category).sum ≤ 8) (hdg : decode cc pc = .ok (.invokevirtual index, 3)) :
    va_Run p l e R s m args below meth c H locs cells slots 0 0 (F0 m pc ls st0) rest (Qc (Value.ref (ad k) :: As).toArray) (zA G) := by
  obtain ⟨c1, c2, c3, c4, c5, c6, c7, c8⟩ := hcw
  have hts := hF.2.2.2.2
  have hrecv := z_recv hZ k hk he hc
  refine va_runV (C := C) (nL := nL) (cc := cc) (Ts := zz) (own := own) hF hM (bytes := b) (maxL := nn) (ret := r) (n := n) (index := index) ?_ ⟨zP.blind, hrecv, hZ.pre⟩ rfl hn hsz hst (lv_room hrs) hdg ⟨hR.2.2.1, hR.2.2.2⟩
  exact ⟨callB_of n hts (zgood0 c1) rfl rfl rfl (hts _ c3) (hts _ c2) ⟨c6, c7, c8⟩ ⟨hR.1, hR.2.1⟩, hts _ c4, hts _ c5⟩
theorem zH.back {en1 : Nat → va_E} {t : State} {H1 : Heap} {locs1 : List Loc} (hZ : zH G ad en N s H locs) (ht : t.heap = H1) (hvm : s.vm.Alike t.vm) (hB : zW G ad en1 N t t.heap) (hS : va_S (zA G) s.heap H1 locs1) : zH G ad en1 N s H1 locs1 := ⟨by rw [ht] at hB; exact hB.moved hvm.symm, hS, hZ.2.2⟩
theorem z_calli {post : Int32 → (Nat → va_E) → Prop} {a : Array Value} (hZ : zH G ad en N s H locs) (hr : va_Run p l e R s m args below meth c H locs cells slots 0 0 (F0 m pc ls st0) rest (zQi G ad N post a) (zA G))
    (kk : ∀ (v : Int32) (en1 : Nat → va_E) (H1 : Heap) (locs1 : List Loc), post v en1 → zH G ad en1 N s H1 locs1 → W p l e R s m args below meth c H1 locs1 cells slots Q (F0 m (pc + 3) ls (.int v :: rest))) : W p l e R s m args below meth c H locs cells slots Q (F0 m pc ls st0) :=
  va_calli hr hZ.2.1 (fun _ _ h => h) (fun _ h => h) (fun v en1 t H1 locs1 ht hvm hp hB _ _ hS => kk v en1 H1 locs1 hp (hZ.back ht hvm hB hS))
theorem z_calll {post : Int64 → (Nat → va_E) → Prop} {a : Array Value} (hZ : zH G ad en N s H locs) (hr : va_Run p l e R s m args below meth c H locs cells slots 0 0 (F0 m pc ls st0) rest (zQl G ad N post a) (zA G))
    (kk : ∀ (v : Int64) (en1 : Nat → va_E) (H1 : Heap) (locs1 : List Loc), post v en1 → zH G ad en1 N s H1 locs1 → W p l e R s m args below meth c H1 locs1 cells slots Q (F0 m (pc + 3) ls (.long v :: rest))) : W p l e R s m args below meth c H locs cells slots Q (F0 m pc ls st0) :=
  va_calll hr hZ.2.1 (fun _ _ h => h) (fun _ h => h) (fun v en1 t H1 locs1 ht hvm hp hB _ _ hS => kk v en1 H1 locs1 hp (hZ.back ht hvm hB hS))
theorem z_callv {post : (Nat → va_E) → Prop} {a : Array Value} (hZ : zH G ad en N s H locs) (hr : va_Run p l e R s m args below meth c H locs cells slots 0 0 (F0 m pc ls st0) rest (zQv G ad N post a) (zA G))
    (kk : ∀ (en1 : Nat → va_E) (H1 : Heap) (locs1 : List Loc), post en1 → zH G ad en1 N s H1 locs1 → W p l e R s m args below meth c H1 locs1 cells slots Q (F0 m (pc + 3) ls rest)) : W p l e R s m args below meth c H locs cells slots Q (F0 m pc ls st0) :=
  va_callv hr hZ.2.1 (fun _ _ h => h) (fun _ h => h) (fun en1 t H1 locs1 ht hvm hp hB _ _ hS => kk en1 H1 locs1 hp (hZ.back ht hvm hB hS))
theorem z_callr {post : Nat → (Nat → va_E) → Prop} {a : Array Value} (hZ : zH G ad en N s H locs) (hr : va_Run p l e R s m args below meth c H locs cells slots 0 0 (F0 m pc ls st0) rest (zQr G ad N post a) (zA G))
    (kk : ∀ (v : Nat) (en1 : Nat → va_E) (H1 : Heap) (locs1 : List Loc), post v en1 → zH G ad en1 N s H1 locs1 → W p l e R s m args below meth c H1 locs1 cells slots Q (F0 m (pc + 3) ls (.ref v :: rest))) : W p l e R s m args below meth c H locs cells slots Q (F0 m pc ls st0) :=
  va_callr hr hZ.2.1 (fun _ _ h => h) (fun _ h => h) (fun en1 ra t H1 locs1 ht hvm _ hB _ _ hS => kk ra en1 H1 locs1 hB.1 (hZ.back ht hvm hB.2 hS))
/-- ends -/
theorem z_iret {post : Int32 → (Nat → va_E) → Prop} {v : Int32} {ty : FieldType} (hF : CallFix p m c cc nL s args zz own) (hr : meth.sig.returnType = some ty) (hlocks : meth.locks = false) (hZ : zH G ad en N s H locs) (hn : narrow ty (.int v) = .int v) (hp : post v en) (hdg : decode cc pc = .ok (.ireturn, 1)) : W p l e R s m args below meth c H locs cells slots (MQ below (zQi G ad N post) args s cells slots (zA G)) (F0 m pc ls [.int v]) :=
  W.zret hF.1 hF.2.1 hr hn (fun t ht hW => ⟨⟨v, en, rfl, hp, (show zW G ad en N t t.heap by rw [ht]; exact hZ.1.moved hW.alike)⟩, hZ.2.1.F ht⟩) hZ.2.1.2.2 hdg hlocks
theorem z_lret {post : Int64 → (Nat → va_E) → Prop} {v : Int64} (hF : CallFix p m c cc nL s args zz own) (hr : meth.sig.returnType = some .long) (hlocks : meth.locks = false) (hZ : zH G ad en N s H locs) (hp : post v en) (hdg : decode cc pc = .ok (.lreturn, 1)) : W p l e R s m args below meth c H locs cells slots (MQ below (zQl G ad N post) args s cells slots (zA G)) (F0 m pc ls [.long v]) :=
  W.lret hF.1 hF.2.1 hr (fun t ht hW => ⟨⟨v, en, rfl, hp, (show zW G ad en N t t.heap by rw [ht]; exact hZ.1.moved hW.alike)⟩, hZ.2.1.F ht⟩) hZ.2.1.2.2 hdg hlocks
theorem z_vret {post : (Nat → va_E) → Prop} (hF : CallFix p m c cc nL s args zz own) (hr : meth.sig.returnType = none) (hlocks : meth.locks = false) (hZ : zH G ad en N s H locs) (hp : post en) (hdg : decode cc pc = .ok (.return_, 1)) : W p l e R s m args below meth c H locs cells slots (MQ below (zQv G ad N post) args s cells slots (zA G)) (F0 m pc ls []) :=
  W.vret hF.1 hF.2.1 hr (fun t ht hW => ⟨⟨en, rfl, hp, (show zW G ad en N t t.heap by rw [ht]; exact hZ.1.moved hW.alike)⟩, hZ.2.1.F ht⟩) hZ.2.1.2.2 hdg hlocks
theorem z_aret {post : Nat → (Nat → va_E) → Prop} {v : Nat} {rt : FieldType} (hF : CallFix p m c cc nL s args zz own) (hr : meth.sig.returnType = some rt) (hrt : (∃ n, rt = .object n) ∨ ∃ t, rt = .array t) (hlocks : meth.locks = false) (hZ : zH G ad en N s H locs) (hp : post v en) (hdg : decode cc pc = .ok (.areturn, 1)) : W p l e R s m args below meth c H locs cells slots (MQ below (zQr G ad N post) args s cells slots (zA G)) (F0 m pc ls [.ref v]) :=
  W.aret hF.1 hF.2.1 hr hrt (Or.inr ⟨v, rfl⟩) (fun t ht hW => ⟨⟨en, v, rfl, trivial, hp, (show zW G ad en N t t.heap by rw [ht]; exact hZ.1.moved hW.alike)⟩, hZ.2.1.F ht⟩) hZ.2.1.2.2 hdg hlocks
theorem z_top {x y : Int32} (h : x = y) (k : W p l e R s m args below meth c H locs cells slots Q (F0 m pc ls (.int y :: rest))) : W p l e R s m args below meth c H locs cells slots Q (F0 m pc ls (.int x :: rest)) := h ▸ k
theorem z_topl {x y : Int64} (h : x = y) (k : W p l e R s m args below meth c H locs cells slots Q (F0 m pc ls (.long y :: rest))) : W p l e R s m args below meth c H locs cells slots Q (F0 m pc ls (.long x :: rest)) := h ▸ k
/-- the world by another name -/
theorem zH.to {en1 : Nat → va_E} (hZ : zH G ad en N s H locs) (h : en = en1) : zH G ad en1 N s H locs := h ▸ hZ
end Z
theorem iinc_p (j : Nat) : nI j + Int32.ofInt 1 = nI (j + 1) := nI_1 j
theorem iinc_m (j : Nat) : iv (j + 1) + Int32.ofInt (-1) = iv j := by
  rw [iv_s]
  unfold iv
  rw [show Int32.ofInt (-1) = -1 by decide, Int32.sub_eq_add_neg]
theorem iinc_q (j : Nat) : nI (j + 1) + Int32.ofInt (-1) = nI j := pk_m1 j
theorem three_p (j : Nat) : nI j + Int32.ofInt 3 = nI (j + 3) := nI_add j 3
section ZM
variable {l : Launch} {y : MethodName} {b : ByteArray} {n d : Nat} {G : zG} {ad : Nat → Nat} {en : Nat → va_E} {N : Nat} {as : List Value}
/-- a contract out of a walk from the entry -/
theorem z_met {r : Option FieldType} {Qc : Array Value → State → Outcome → State → Prop} (hy : plainName y.cls = true) (hlen : (lg_sl as).length ≤ n)
    (body : ∀ (p : Program) (e : Env) (s : State) (m : MethodId) (below : List Frame) (meth : Method) (c : Code) (ls : Array Slot), CallFix p m c b n s as.toArray zz y.cls → meth.sig.returnType = r → meth.locks = false → meth.name = y.name → zH G ad en N s s.heap [] → lv_has ls n (lv_args 0 as) → W p l e (zR d) s m as.toArray below meth c s.heap [] 0 0 (MQ below Qc as.toArray s 0 0 (zA G)) (F0 m 0 ls [])) :
    Met l y (.code y b n r :: zz) (zR d) (zP G ad en N as) Qc 0 0 (zA G) := by
  refine Met.ofW (cc := b) (maxL := n) (ret := r) hy rfl ?_
  intro p e s m args below meth c s₁ B hml hv
  obtain ⟨rfl, hW⟩ := hv
  have hts := atoms_spec (ws := .code y b n r :: zz) B.pre
  have hl := lv_entry as hlen
  rw [lg_entry_eq]
  exact body p e s m below meth c _ ⟨B.exec, B.bytes, hml, findClass_of_methodNamed B.named, fun w hw => hts w (List.mem_cons_of_mem _ hw)⟩ B.returns B.notSynchronized (name_of_methodNamed B.named B.method).1 (zH.start hW) hl
end ZM
end
section
section ACC
variable {p : Program} {l : Launch} {e : Env} {R : Room} {s : State} {m : MethodId} {args : Array Value} {below : List Frame} {meth : Method} {c : Code} {H : Heap} {locs : List Loc} {cells slots : Nat} {Q : State → Prop}
variable {cc : ByteArray} {pc nL : Nat} {ls : Array Slot} {rest : List Value} {G : zG} {ad : Nat → Nat} {en : Nat → va_E} {N : Nat}
theorem gf_L_9 (hF : CallFix p m c cc nL s args zz R_L) (hZ : zH G ad en N s H locs) (k : Nat) (hk : k < N) {fs : List Value} (he : en k = .inr (kL, fs)) {v : Value} (hv : fs[0]? = some v) (hdg : decode cc pc = .ok (.getfield 9, 3)) (kk : W p l e R s m args below meth c H locs cells slots Q (F0 m (pc + 3) ls (v :: rest))) : W p l e R s m args below meth c H locs cells slots Q (F0 m pc ls (.ref (ad k) :: rest)) := z_get hF hZ u_L rfl 0 (by decide) rfl fl_L_9 k hk he hv hdg kk
theorem pF_L_9 (hF : CallFix p m c cc nL s args zz R_L) (hZ : zH G ad en N s H locs) (hnam : meth.name = "<init>") (k : Nat) (hk : k < N) {fs : List Value} (he : en k = .inr (kL, fs)) {v : Nat} (hl : 0 < fs.length) (hdg : decode cc pc = .ok (.putfield 9, 3)) (kk : ∀ (H1 : Heap) (locs1 : List Loc), zH G ad (va_up en k (.inr (kL, fs.set 0 (.ref v)))) N s H1 locs1 → W p l e R s m args below meth c H1 locs1 cells slots Q (F0 m (pc + 3) ls rest)) : W p l e R s m args below meth c H locs cells slots Q (F0 m pc ls (.ref v :: .ref (ad k) :: rest)) := z_putF t_L hF hZ u_L t_L_ok n_L rfl 0 (by decide) rfl rfl fl_L_9 hnam k hk he (ty := t_L 0) (t_L_ok 0 (by decide)) rfl rfl hl hdg kk
theorem gf_L_15 (hF : CallFix p m c cc nL s args zz R_L) (hZ : zH G ad en N s H locs) (k : Nat) (hk : k < N) {fs : List Value} (he : en k = .inr (kL, fs)) {v : Value} (hv : fs[1]? = some v) (hdg : decode cc pc = .ok (.getfield 15, 3)) (kk : W p l e R s m args below meth c H locs cells slots Q (F0 m (pc + 3) ls (v :: rest))) : W p l e R s m args below meth c H locs cells slots Q (F0 m pc ls (.ref (ad k) :: rest)) := z_get hF hZ u_L rfl 1 (by decide) rfl fl_L_15 k hk he hv hdg kk
theorem pf_L_15 (hF : CallFix p m c cc nL s args zz R_L) (hZ : zH G ad en N s H locs) (k : Nat) (hk : k < N) {fs : List Value} (he : en k = .inr (kL, fs)) {v : Int32} (hl : 1 < fs.length) (hdg : decode cc pc = .ok (.putfield 15, 3)) (kk : ∀ (H1 : Heap) (locs1 : List Loc), zH G ad (va_up en k (.inr (kL, fs.set 1 (.int v)))) N s H1 locs1 → W p l e R s m args below meth c H1 locs1 cells slots Q (F0 m (pc + 3) ls rest)) : W p l e R s m args below meth c H locs cells slots Q (F0 m pc ls (.int v :: .ref (ad k) :: rest)) := z_put t_L hF hZ u_L t_L_ok n_L rfl 1 (by decide) rfl rfl fl_L_15 k hk he (ty := .int) (by decide +kernel) rfl rfl hl hdg kk
theorem gf_E_16 (hF : CallFix p m c cc nL s args zz R_E) (hZ : zH G ad en N s H locs) (k : Nat) (hk : k < N) {fs : List Value} (he : en k = .inr (kL, fs)) {v : Value} (hv : fs[1]? = some v) (hdg : decode cc pc = .ok (.getfield 16, 3)) (kk : W p l e R s m args below meth c H locs cells slots Q (F0 m (pc + 3) ls (v :: rest))) : W p l e R s m args below meth c H locs cells slots Q (F0 m pc ls (.ref (ad k) :: rest)) := z_getN hF hZ u_L rfl 1 (by decide) rfl fn_E_16 k hk he hv hdg kk
theorem pf_E_16 (hF : CallFix p m c cc nL s args zz R_E) (hZ : zH G ad en N s H locs) (k : Nat) (hk : k < N) {fs : List Value} (he : en k = .inr (kL, fs)) {v : Int32} (hl : 1 < fs.length) (hdg : decode cc pc = .ok (.putfield 16, 3)) (kk : ∀ (H1 : Heap) (locs1 : List Loc), zH G ad (va_up en k (.inr (kL, fs.set 1 (.int v)))) N s H1 locs1 → W p l e R s m args below meth c H1 locs1 cells slots Q (F0 m (pc + 3) ls rest)) : W p l e R s m args below meth c H locs cells slots Q (F0 m pc ls (.int v :: .ref (ad k) :: rest)) := z_putN t_L hF hZ u_L t_L_ok n_L rfl 1 (by decide) rfl rfl fn_E_16 k hk he (ty := .int) (by decide +kernel) rfl rfl hl hdg kk
theorem gf_R_16 (hF : CallFix p m c cc nL s args zz R_R) (hZ : zH G ad en N s H locs) (k : Nat) (hk : k < N) {fs : List Value} (he : en k = .inr (kL, fs)) {v : Value} (hv : fs[1]? = some v) (hdg : decode cc pc = .ok (.getfield 16, 3)) (kk : W p l e R s m args below meth c H locs cells slots Q (F0 m (pc + 3) ls (v :: rest))) : W p l e R s m args below meth c H locs cells slots Q (F0 m pc ls (.ref (ad k) :: rest)) := z_getN hF hZ u_L rfl 1 (by decide) rfl fn_R_16 k hk he hv hdg kk
theorem pf_R_16 (hF : CallFix p m c cc nL s args zz R_R) (hZ : zH G ad en N s H locs) (k : Nat) (hk : k < N) {fs : List Value} (he : en k = .inr (kL, fs)) {v : Int32} (hl : 1 < fs.length) (hdg : decode cc pc = .ok (.putfield 16, 3)) (kk : ∀ (H1 : Heap) (locs1 : List Loc), zH G ad (va_up en k (.inr (kL, fs.set 1 (.int v)))) N s H1 locs1 → W p l e R s m args below meth c H1 locs1 cells slots Q (F0 m (pc + 3) ls rest)) : W p l e R s m args below meth c H locs cells slots Q (F0 m pc ls (.int v :: .ref (ad k) :: rest)) := z_putN t_L hF hZ u_L t_L_ok n_L rfl 1 (by decide) rfl rfl fn_R_16 k hk he (ty := .int) (by decide +kernel) rfl rfl hl hdg kk
theorem gf_S_54 (hF : CallFix p m c cc nL s args zz R_S) (hZ : zH G ad en N s H locs) (k : Nat) (hk : k < N) {fs : List Value} (he : en k = .inr (kL, fs)) {v : Value} (hv : fs[1]? = some v) (hdg : decode cc pc = .ok (.getfield 54, 3)) (kk : W p l e R s m args below meth c H locs cells slots Q (F0 m (pc + 3) ls (v :: rest))) : W p l e R s m args below meth c H locs cells slots Q (F0 m pc ls (.ref (ad k) :: rest)) := z_getN hF hZ u_L rfl 1 (by decide) rfl fn_S_54 k hk he hv hdg kk
theorem pf_S_54 (hF : CallFix p m c cc nL s args zz R_S) (hZ : zH G ad en N s H locs) (k : Nat) (hk : k < N) {fs : List Value} (he : en k = .inr (kL, fs)) {v : Int32} (hl : 1 < fs.length) (hdg : decode cc pc = .ok (.putfield 54, 3)) (kk : ∀ (H1 : Heap) (locs1 : List Loc), zH G ad (va_up en k (.inr (kL, fs.set 1 (.int v)))) N s H1 locs1 → W p l e R s m args below meth c H1 locs1 cells slots Q (F0 m (pc + 3) ls rest)) : W p l e R s m args below meth c H locs cells slots Q (F0 m pc ls (.int v :: .ref (ad k) :: rest)) := z_putN t_L hF hZ u_L t_L_ok n_L rfl 1 (by decide) rfl rfl fn_S_54 k hk he (ty := .int) (by decide +kernel) rfl rfl hl hdg kk
theorem gf_W_14 (hF : CallFix p m c cc nL s args zz R_W) (hZ : zH G ad en N s H locs) (k : Nat) (hk : k < N) {fs : List Value} (he : en k = .inr (kW, fs)) {v : Value} (hv : fs[0]? = some v) (hdg : decode cc pc = .ok (.getfield 14, 3)) (kk : W p l e R s m args below meth c H locs cells slots Q (F0 m (pc + 3) ls (v :: rest))) : W p l e R s m args below meth c H locs cells slots Q (F0 m pc ls (.ref (ad k) :: rest)) := z_get hF hZ u_W rfl 0 (by decide) rfl fl_W_14 k hk he hv hdg kk
theorem pF_W_14 (hF : CallFix p m c cc nL s args zz R_W) (hZ : zH G ad en N s H locs) (hnam : meth.name = "<init>") (k : Nat) (hk : k < N) {fs : List Value} (he : en k = .inr (kW, fs)) {v : Nat} (hl : 0 < fs.length) (hdg : decode cc pc = .ok (.putfield 14, 3)) (kk : ∀ (H1 : Heap) (locs1 : List Loc), zH G ad (va_up en k (.inr (kW, fs.set 0 (.ref v)))) N s H1 locs1 → W p l e R s m args below meth c H1 locs1 cells slots Q (F0 m (pc + 3) ls rest)) : W p l e R s m args below meth c H locs cells slots Q (F0 m pc ls (.ref v :: .ref (ad k) :: rest)) := z_putF t_W hF hZ u_W t_W_ok n_W rfl 0 (by decide) rfl rfl fl_W_14 hnam k hk he (ty := t_W 0) (t_W_ok 0 (by decide)) rfl rfl hl hdg kk
theorem gf_D_22 (hF : CallFix p m c cc nL s args zz R_D) (hZ : zH G ad en N s H locs) (k : Nat) (hk : k < N) {fs : List Value} (he : en k = .inr (kW, fs)) {v : Value} (hv : fs[0]? = some v) (hdg : decode cc pc = .ok (.getfield 22, 3)) (kk : W p l e R s m args below meth c H locs cells slots Q (F0 m (pc + 3) ls (v :: rest))) : W p l e R s m args below meth c H locs cells slots Q (F0 m pc ls (.ref (ad k) :: rest)) := z_getN hF hZ u_W rfl 0 (by decide) rfl fn_D_22 k hk he hv hdg kk
theorem gf_W_20 (hF : CallFix p m c cc nL s args zz R_W) (hZ : zH G ad en N s H locs) (k : Nat) (hk : k < N) {fs : List Value} (he : en k = .inr (kW, fs)) {v : Value} (hv : fs[1]? = some v) (hdg : decode cc pc = .ok (.getfield 20, 3)) (kk : W p l e R s m args below meth c H locs cells slots Q (F0 m (pc + 3) ls (v :: rest))) : W p l e R s m args below meth c H locs cells slots Q (F0 m pc ls (.ref (ad k) :: rest)) := z_get hF hZ u_W rfl 1 (by decide) rfl fl_W_20 k hk he hv hdg kk
theorem pf_W_20 (hF : CallFix p m c cc nL s args zz R_W) (hZ : zH G ad en N s H locs) (k : Nat) (hk : k < N) {fs : List Value} (he : en k = .inr (kW, fs)) {v : Int32} (hl : 1 < fs.length) (hdg : decode cc pc = .ok (.putfield 20, 3)) (kk : ∀ (H1 : Heap) (locs1 : List Loc), zH G ad (va_up en k (.inr (kW, fs.set 1 (.int v)))) N s H1 locs1 → W p l e R s m args below meth c H1 locs1 cells slots Q (F0 m (pc + 3) ls rest)) : W p l e R s m args below meth c H locs cells slots Q (F0 m pc ls (.int v :: .ref (ad k) :: rest)) := z_put t_W hF hZ u_W t_W_ok n_W rfl 1 (by decide) rfl rfl fl_W_20 k hk he (ty := .int) (by decide +kernel) rfl rfl hl hdg kk
theorem gf_D_26 (hF : CallFix p m c cc nL s args zz R_D) (hZ : zH G ad en N s H locs) (k : Nat) (hk : k < N) {fs : List Value} (he : en k = .inr (kW, fs)) {v : Value} (hv : fs[1]? = some v) (hdg : decode cc pc = .ok (.getfield 26, 3)) (kk : W p l e R s m args below meth c H locs cells slots Q (F0 m (pc + 3) ls (v :: rest))) : W p l e R s m args below meth c H locs cells slots Q (F0 m pc ls (.ref (ad k) :: rest)) := z_getN hF hZ u_W rfl 1 (by decide) rfl fn_D_26 k hk he hv hdg kk
theorem pf_D_26 (hF : CallFix p m c cc nL s args zz R_D) (hZ : zH G ad en N s H locs) (k : Nat) (hk : k < N) {fs : List Value} (he : en k = .inr (kW, fs)) {v : Int32} (hl : 1 < fs.length) (hdg : decode cc pc = .ok (.putfield 26, 3)) (kk : ∀ (H1 : Heap) (locs1 : List Loc), zH G ad (va_up en k (.inr (kW, fs.set 1 (.int v)))) N s H1 locs1 → W p l e R s m args below meth c H1 locs1 cells slots Q (F0 m (pc + 3) ls rest)) : W p l e R s m args below meth c H locs cells slots Q (F0 m pc ls (.int v :: .ref (ad k) :: rest)) := z_putN t_W hF hZ u_W t_W_ok n_W rfl 1 (by decide) rfl rfl fn_D_26 k hk he (ty := .int) (by decide +kernel) rfl rfl hl hdg kk
theorem gf_D_11 (hF : CallFix p m c cc nL s args zz R_D) (hZ : zH G ad en N s H locs) (k : Nat) (hk : k < N) {fs : List Value} (he : en k = .inr (kD, fs)) {v : Value} (hv : fs[0]? = some v) (hdg : decode cc pc = .ok (.getfield 11, 3)) (kk : W p l e R s m args below meth c H locs cells slots Q (F0 m (pc + 3) ls (v :: rest))) : W p l e R s m args below meth c H locs cells slots Q (F0 m pc ls (.ref (ad k) :: rest)) := z_get hF hZ u_D rfl 0 (by decide) rfl fl_D_11 k hk he hv hdg kk
theorem pF_D_11 (hF : CallFix p m c cc nL s args zz R_D) (hZ : zH G ad en N s H locs) (hnam : meth.name = "<init>") (k : Nat) (hk : k < N) {fs : List Value} (he : en k = .inr (kD, fs)) {v : Nat} (hl : 0 < fs.length) (hdg : decode cc pc = .ok (.putfield 11, 3)) (kk : ∀ (H1 : Heap) (locs1 : List Loc), zH G ad (va_up en k (.inr (kD, fs.set 0 (.ref v)))) N s H1 locs1 → W p l e R s m args below meth c H1 locs1 cells slots Q (F0 m (pc + 3) ls rest)) : W p l e R s m args below meth c H locs cells slots Q (F0 m pc ls (.ref v :: .ref (ad k) :: rest)) := z_putF t_D hF hZ u_D t_D_ok n_D rfl 0 (by decide) rfl rfl fl_D_11 hnam k hk he (ty := t_D 0) (t_D_ok 0 (by decide)) rfl rfl hl hdg kk
theorem gf_D_18 (hF : CallFix p m c cc nL s args zz R_D) (hZ : zH G ad en N s H locs) (k : Nat) (hk : k < N) {fs : List Value} (he : en k = .inr (kD, fs)) {v : Value} (hv : fs[1]? = some v) (hdg : decode cc pc = .ok (.getfield 18, 3)) (kk : W p l e R s m args below meth c H locs cells slots Q (F0 m (pc + 3) ls (v :: rest))) : W p l e R s m args below meth c H locs cells slots Q (F0 m pc ls (.ref (ad k) :: rest)) := z_get hF hZ u_D rfl 1 (by decide) rfl fl_D_18 k hk he hv hdg kk
theorem pf_D_18 (hF : CallFix p m c cc nL s args zz R_D) (hZ : zH G ad en N s H locs) (k : Nat) (hk : k < N) {fs : List Value} (he : en k = .inr (kD, fs)) {v : Int32} (hl : 1 < fs.length) (hdg : decode cc pc = .ok (.putfield 18, 3)) (kk : ∀ (H1 : Heap) (locs1 : List Loc), zH G ad (va_up en k (.inr (kD, fs.set 1 (.int v)))) N s H1 locs1 → W p l e R s m args below meth c H1 locs1 cells slots Q (F0 m (pc + 3) ls rest)) : W p l e R s m args below meth c H locs cells slots Q (F0 m pc ls (.int v :: .ref (ad k) :: rest)) := z_put t_D hF hZ u_D t_D_ok n_D rfl 1 (by decide) rfl rfl fl_D_18 k hk he (ty := .int) (by decide +kernel) rfl rfl hl hdg kk
theorem gf_S_78 (hF : CallFix p m c cc nL s args zz R_S) (hZ : zH G ad en N s H locs) (k : Nat) (hk : k < N) {fs : List Value} (he : en k = .inr (kD, fs)) {v : Value} (hv : fs[1]? = some v) (hdg : decode cc pc = .ok (.getfield 78, 3)) (kk : W p l e R s m args below meth c H locs cells slots Q (F0 m (pc + 3) ls (v :: rest))) : W p l e R s m args below meth c H locs cells slots Q (F0 m pc ls (.ref (ad k) :: rest)) := z_getN hF hZ u_D rfl 1 (by decide) rfl fn_S_78 k hk he hv hdg kk
theorem pf_S_78 (hF : CallFix p m c cc nL s args zz R_S) (hZ : zH G ad en N s H locs) (k : Nat) (hk : k < N) {fs : List Value} (he : en k = .inr (kD, fs)) {v : Int32} (hl : 1 < fs.length) (hdg : decode cc pc = .ok (.putfield 78, 3)) (kk : ∀ (H1 : Heap) (locs1 : List Loc), zH G ad (va_up en k (.inr (kD, fs.set 1 (.int v)))) N s H1 locs1 → W p l e R s m args below meth c H1 locs1 cells slots Q (F0 m (pc + 3) ls rest)) : W p l e R s m args below meth c H locs cells slots Q (F0 m pc ls (.int v :: .ref (ad k) :: rest)) := z_putN t_D hF hZ u_D t_D_ok n_D rfl 1 (by decide) rfl rfl fn_S_78 k hk he (ty := .int) (by decide +kernel) rfl rfl hl hdg kk
theorem gf_E_11 (hF : CallFix p m c cc nL s args zz R_E) (hZ : zH G ad en N s H locs) (k : Nat) (hk : k < N) {fs : List Value} (he : en k = .inr (kE, fs)) {v : Value} (hv : fs[0]? = some v) (hdg : decode cc pc = .ok (.getfield 11, 3)) (kk : W p l e R s m args below meth c H locs cells slots Q (F0 m (pc + 3) ls (v :: rest))) : W p l e R s m args below meth c H locs cells slots Q (F0 m pc ls (.ref (ad k) :: rest)) := z_get hF hZ u_E rfl 0 (by decide) rfl fl_E_11 k hk he hv hdg kk
theorem pF_E_11 (hF : CallFix p m c cc nL s args zz R_E) (hZ : zH G ad en N s H locs) (hnam : meth.name = "<init>") (k : Nat) (hk : k < N) {fs : List Value} (he : en k = .inr (kE, fs)) {v : Nat} (hl : 0 < fs.length) (hdg : decode cc pc = .ok (.putfield 11, 3)) (kk : ∀ (H1 : Heap) (locs1 : List Loc), zH G ad (va_up en k (.inr (kE, fs.set 0 (.ref v)))) N s H1 locs1 → W p l e R s m args below meth c H1 locs1 cells slots Q (F0 m (pc + 3) ls rest)) : W p l e R s m args below meth c H locs cells slots Q (F0 m pc ls (.ref v :: .ref (ad k) :: rest)) := z_putF t_E hF hZ u_E t_E_ok n_E rfl 0 (by decide) rfl rfl fl_E_11 hnam k hk he (ty := t_E 0) (t_E_ok 0 (by decide)) rfl rfl hl hdg kk
theorem gf_R_11 (hF : CallFix p m c cc nL s args zz R_R) (hZ : zH G ad en N s H locs) (k : Nat) (hk : k < N) {fs : List Value} (he : en k = .inr (kR, fs)) {v : Value} (hv : fs[0]? = some v) (hdg : decode cc pc = .ok (.getfield 11, 3)) (kk : W p l e R s m args below meth c H locs cells slots Q (F0 m (pc + 3) ls (v :: rest))) : W p l e R s m args below meth c H locs cells slots Q (F0 m pc ls (.ref (ad k) :: rest)) := z_get hF hZ u_R rfl 0 (by decide) rfl fl_R_11 k hk he hv hdg kk
theorem pF_R_11 (hF : CallFix p m c cc nL s args zz R_R) (hZ : zH G ad en N s H locs) (hnam : meth.name = "<init>") (k : Nat) (hk : k < N) {fs : List Value} (he : en k = .inr (kR, fs)) {v : Nat} (hl : 0 < fs.length) (hdg : decode cc pc = .ok (.putfield 11, 3)) (kk : ∀ (H1 : Heap) (locs1 : List Loc), zH G ad (va_up en k (.inr (kR, fs.set 0 (.ref v)))) N s H1 locs1 → W p l e R s m args below meth c H1 locs1 cells slots Q (F0 m (pc + 3) ls rest)) : W p l e R s m args below meth c H locs cells slots Q (F0 m pc ls (.ref v :: .ref (ad k) :: rest)) := z_putF t_R hF hZ u_R t_R_ok n_R rfl 0 (by decide) rfl rfl fl_R_11 hnam k hk he (ty := t_R 0) (t_R_ok 0 (by decide)) rfl rfl hl hdg kk
theorem gf_S_14 (hF : CallFix p m c cc nL s args zz R_S) (hZ : zH G ad en N s H locs) (k : Nat) (hk : k < N) {fs : List Value} (he : en k = .inr (kS, fs)) {v : Value} (hv : fs[0]? = some v) (hdg : decode cc pc = .ok (.getfield 14, 3)) (kk : W p l e R s m args below meth c H locs cells slots Q (F0 m (pc + 3) ls (v :: rest))) : W p l e R s m args below meth c H locs cells slots Q (F0 m pc ls (.ref (ad k) :: rest)) := z_get hF hZ u_S rfl 0 (by decide) rfl fl_S_14 k hk he hv hdg kk
theorem pF_S_14 (hF : CallFix p m c cc nL s args zz R_S) (hZ : zH G ad en N s H locs) (hnam : meth.name = "<init>") (k : Nat) (hk : k < N) {fs : List Value} (he : en k = .inr (kS, fs)) {v : Nat} (hl : 0 < fs.length) (hdg : decode cc pc = .ok (.putfield 14, 3)) (kk : ∀ (H1 : Heap) (locs1 : List Loc), zH G ad (va_up en k (.inr (kS, fs.set 0 (.ref v)))) N s H1 locs1 → W p l e R s m args below meth c H1 locs1 cells slots Q (F0 m (pc + 3) ls rest)) : W p l e R s m args below meth c H locs cells slots Q (F0 m pc ls (.ref v :: .ref (ad k) :: rest)) := z_putF t_S hF hZ u_S t_S_ok n_S rfl 0 (by decide) rfl rfl fl_S_14 hnam k hk he (ty := t_S 0) (t_S_ok 0 (by decide)) rfl rfl hl hdg kk
theorem gf_S_21 (hF : CallFix p m c cc nL s args zz R_S) (hZ : zH G ad en N s H locs) (k : Nat) (hk : k < N) {fs : List Value} (he : en k = .inr (kS, fs)) {v : Value} (hv : fs[1]? = some v) (hdg : decode cc pc = .ok (.getfield 21, 3)) (kk : W p l e R s m args below meth c H locs cells slots Q (F0 m (pc + 3) ls (v :: rest))) : W p l e R s m args below meth c H locs cells slots Q (F0 m pc ls (.ref (ad k) :: rest)) := z_get hF hZ u_S rfl 1 (by decide) rfl fl_S_21 k hk he hv hdg kk
theorem pF_S_21 (hF : CallFix p m c cc nL s args zz R_S) (hZ : zH G ad en N s H locs) (hnam : meth.name = "<init>") (k : Nat) (hk : k < N) {fs : List Value} (he : en k = .inr (kS, fs)) {v : Nat} (hl : 1 < fs.length) (hdg : decode cc pc = .ok (.putfield 21, 3)) (kk : ∀ (H1 : Heap) (locs1 : List Loc), zH G ad (va_up en k (.inr (kS, fs.set 1 (.ref v)))) N s H1 locs1 → W p l e R s m args below meth c H1 locs1 cells slots Q (F0 m (pc + 3) ls rest)) : W p l e R s m args below meth c H locs cells slots Q (F0 m pc ls (.ref v :: .ref (ad k) :: rest)) := z_putF t_S hF hZ u_S t_S_ok n_S rfl 1 (by decide) rfl rfl fl_S_21 hnam k hk he (ty := t_S 1) (t_S_ok 1 (by decide)) rfl rfl hl hdg kk
theorem gf_S_28 (hF : CallFix p m c cc nL s args zz R_S) (hZ : zH G ad en N s H locs) (k : Nat) (hk : k < N) {fs : List Value} (he : en k = .inr (kS, fs)) {v : Value} (hv : fs[2]? = some v) (hdg : decode cc pc = .ok (.getfield 28, 3)) (kk : W p l e R s m args below meth c H locs cells slots Q (F0 m (pc + 3) ls (v :: rest))) : W p l e R s m args below meth c H locs cells slots Q (F0 m pc ls (.ref (ad k) :: rest)) := z_get hF hZ u_S rfl 2 (by decide) rfl fl_S_28 k hk he hv hdg kk
theorem pF_S_28 (hF : CallFix p m c cc nL s args zz R_S) (hZ : zH G ad en N s H locs) (hnam : meth.name = "<init>") (k : Nat) (hk : k < N) {fs : List Value} (he : en k = .inr (kS, fs)) {v : Nat} (hl : 2 < fs.length) (hdg : decode cc pc = .ok (.putfield 28, 3)) (kk : ∀ (H1 : Heap) (locs1 : List Loc), zH G ad (va_up en k (.inr (kS, fs.set 2 (.ref v)))) N s H1 locs1 → W p l e R s m args below meth c H1 locs1 cells slots Q (F0 m (pc + 3) ls rest)) : W p l e R s m args below meth c H locs cells slots Q (F0 m pc ls (.ref v :: .ref (ad k) :: rest)) := z_putF t_S hF hZ u_S t_S_ok n_S rfl 2 (by decide) rfl rfl fl_S_28 hnam k hk he (ty := t_S 2) (t_S_ok 2 (by decide)) rfl rfl hl hdg kk
theorem gf_S_35 (hF : CallFix p m c cc nL s args zz R_S) (hZ : zH G ad en N s H locs) (k : Nat) (hk : k < N) {fs : List Value} (he : en k = .inr (kS, fs)) {v : Value} (hv : fs[3]? = some v) (hdg : decode cc pc = .ok (.getfield 35, 3)) (kk : W p l e R s m args below meth c H locs cells slots Q (F0 m (pc + 3) ls (v :: rest))) : W p l e R s m args below meth c H locs cells slots Q (F0 m pc ls (.ref (ad k) :: rest)) := z_get hF hZ u_S rfl 3 (by decide) rfl fl_S_35 k hk he hv hdg kk
theorem pF_S_35 (hF : CallFix p m c cc nL s args zz R_S) (hZ : zH G ad en N s H locs) (hnam : meth.name = "<init>") (k : Nat) (hk : k < N) {fs : List Value} (he : en k = .inr (kS, fs)) {v : Nat} (hl : 3 < fs.length) (hdg : decode cc pc = .ok (.putfield 35, 3)) (kk : ∀ (H1 : Heap) (locs1 : List Loc), zH G ad (va_up en k (.inr (kS, fs.set 3 (.ref v)))) N s H1 locs1 → W p l e R s m args below meth c H1 locs1 cells slots Q (F0 m (pc + 3) ls rest)) : W p l e R s m args below meth c H locs cells slots Q (F0 m pc ls (.ref v :: .ref (ad k) :: rest)) := z_putF t_S hF hZ u_S t_S_ok n_S rfl 3 (by decide) rfl rfl fl_S_35 hnam k hk he (ty := t_S 3) (t_S_ok 3 (by decide)) rfl rfl hl hdg kk
theorem gf_S_39 (hF : CallFix p m c cc nL s args zz R_S) (hZ : zH G ad en N s H locs) (k : Nat) (hk : k < N) {fs : List Value} (he : en k = .inr (kS, fs)) {v : Value} (hv : fs[4]? = some v) (hdg : decode cc pc = .ok (.getfield 39, 3)) (kk : W p l e R s m args below meth c H locs cells slots Q (F0 m (pc + 3) ls (v :: rest))) : W p l e R s m args below meth c H locs cells slots Q (F0 m pc ls (.ref (ad k) :: rest)) := z_get hF hZ u_S rfl 4 (by decide) rfl fl_S_39 k hk he hv hdg kk
theorem pF_S_39 (hF : CallFix p m c cc nL s args zz R_S) (hZ : zH G ad en N s H locs) (hnam : meth.name = "<init>") (k : Nat) (hk : k < N) {fs : List Value} (he : en k = .inr (kS, fs)) {v : Nat} (hl : 4 < fs.length) (hdg : decode cc pc = .ok (.putfield 39, 3)) (kk : ∀ (H1 : Heap) (locs1 : List Loc), zH G ad (va_up en k (.inr (kS, fs.set 4 (.ref v)))) N s H1 locs1 → W p l e R s m args below meth c H1 locs1 cells slots Q (F0 m (pc + 3) ls rest)) : W p l e R s m args below meth c H locs cells slots Q (F0 m pc ls (.ref v :: .ref (ad k) :: rest)) := z_putF t_S hF hZ u_S t_S_ok n_S rfl 4 (by decide) rfl rfl fl_S_39 hnam k hk he (ty := t_S 4) (t_S_ok 4 (by decide)) rfl rfl hl hdg kk
theorem gf_M_7 (hF : CallFix p m c cc nL s args zz R_M) (hZ : zH G ad en N s H locs) (k : Nat) (hk : k < N) {fs : List Value} (he : en k = .inr (kM, fs)) {v : Value} (hv : fs[0]? = some v) (hdg : decode cc pc = .ok (.getfield 7, 3)) (kk : W p l e R s m args below meth c H locs cells slots Q (F0 m (pc + 3) ls (v :: rest))) : W p l e R s m args below meth c H locs cells slots Q (F0 m pc ls (.ref (ad k) :: rest)) := z_get hF hZ u_M rfl 0 (by decide) rfl fl_M_7 k hk he hv hdg kk
theorem pF_M_7 (hF : CallFix p m c cc nL s args zz R_M) (hZ : zH G ad en N s H locs) (hnam : meth.name = "<init>") (k : Nat) (hk : k < N) {fs : List Value} (he : en k = .inr (kM, fs)) {v : Nat} (hl : 0 < fs.length) (hdg : decode cc pc = .ok (.putfield 7, 3)) (kk : ∀ (H1 : Heap) (locs1 : List Loc), zH G ad (va_up en k (.inr (kM, fs.set 0 (.ref v)))) N s H1 locs1 → W p l e R s m args below meth c H1 locs1 cells slots Q (F0 m (pc + 3) ls rest)) : W p l e R s m args below meth c H locs cells slots Q (F0 m pc ls (.ref v :: .ref (ad k) :: rest)) := z_putF t_M hF hZ u_M t_M_ok n_M rfl 0 (by decide) rfl rfl fl_M_7 hnam k hk he (ty := t_M 0) (t_M_ok 0 (by decide)) rfl rfl hl hdg kk
theorem gf_M_29 (hF : CallFix p m c cc nL s args zz R_M) (hZ : zH G ad en N s H locs) (k : Nat) (hk : k < N) {fs : List Value} (he : en k = .inr (kM, fs)) {v : Value} (hv : fs[1]? = some v) (hdg : decode cc pc = .ok (.getfield 29, 3)) (kk : W p l e R s m args below meth c H locs cells slots Q (F0 m (pc + 3) ls (v :: rest))) : W p l e R s m args below meth c H locs cells slots Q (F0 m pc ls (.ref (ad k) :: rest)) := z_get hF hZ u_M rfl 1 (by decide) rfl fl_M_29 k hk he hv hdg kk
theorem pf_M_29 (hF : CallFix p m c cc nL s args zz R_M) (hZ : zH G ad en N s H locs) (k : Nat) (hk : k < N) {fs : List Value} (he : en k = .inr (kM, fs)) {v : Int32} (hl : 1 < fs.length) (hdg : decode cc pc = .ok (.putfield 29, 3)) (kk : ∀ (H1 : Heap) (locs1 : List Loc), zH G ad (va_up en k (.inr (kM, fs.set 1 (.int v)))) N s H1 locs1 → W p l e R s m args below meth c H1 locs1 cells slots Q (F0 m (pc + 3) ls rest)) : W p l e R s m args below meth c H locs cells slots Q (F0 m pc ls (.int v :: .ref (ad k) :: rest)) := z_put t_M hF hZ u_M t_M_ok n_M rfl 1 (by decide) rfl rfl fl_M_29 k hk he (ty := .int) (by decide +kernel) rfl rfl hl hdg kk
theorem gf_M_13 (hF : CallFix p m c cc nL s args zz R_M) (hZ : zH G ad en N s H locs) (k : Nat) (hk : k < N) {fs : List Value} (he : en k = .inr (kM, fs)) {v : Value} (hv : fs[2]? = some v) (hdg : decode cc pc = .ok (.getfield 13, 3)) (kk : W p l e R s m args below meth c H locs cells slots Q (F0 m (pc + 3) ls (v :: rest))) : W p l e R s m args below meth c H locs cells slots Q (F0 m pc ls (.ref (ad k) :: rest)) := z_get hF hZ u_M rfl 2 (by decide) rfl fl_M_13 k hk he hv hdg kk
theorem pF_M_13 (hF : CallFix p m c cc nL s args zz R_M) (hZ : zH G ad en N s H locs) (hnam : meth.name = "<init>") (k : Nat) (hk : k < N) {fs : List Value} (he : en k = .inr (kM, fs)) {v : Nat} (hl : 2 < fs.length) (hdg : decode cc pc = .ok (.putfield 13, 3)) (kk : ∀ (H1 : Heap) (locs1 : List Loc), zH G ad (va_up en k (.inr (kM, fs.set 2 (.ref v)))) N s H1 locs1 → W p l e R s m args below meth c H1 locs1 cells slots Q (F0 m (pc + 3) ls rest)) : W p l e R s m args below meth c H locs cells slots Q (F0 m pc ls (.ref v :: .ref (ad k) :: rest)) := z_putF t_M hF hZ u_M t_M_ok n_M rfl 2 (by decide) rfl rfl fl_M_13 hnam k hk he (ty := t_M 2) (t_M_ok 2 (by decide)) rfl rfl hl hdg kk
theorem gf_M_16 (hF : CallFix p m c cc nL s args zz R_M) (hZ : zH G ad en N s H locs) (k : Nat) (hk : k < N) {fs : List Value} (he : en k = .inr (kM, fs)) {v : Value} (hv : fs[3]? = some v) (hdg : decode cc pc = .ok (.getfield 16, 3)) (kk : W p l e R s m args below meth c H locs cells slots Q (F0 m (pc + 3) ls (v :: rest))) : W p l e R s m args below meth c H locs cells slots Q (F0 m pc ls (.ref (ad k) :: rest)) := z_get hF hZ u_M rfl 3 (by decide) rfl fl_M_16 k hk he hv hdg kk
theorem pF_M_16 (hF : CallFix p m c cc nL s args zz R_M) (hZ : zH G ad en N s H locs) (hnam : meth.name = "<init>") (k : Nat) (hk : k < N) {fs : List Value} (he : en k = .inr (kM, fs)) {v : Nat} (hl : 3 < fs.length) (hdg : decode cc pc = .ok (.putfield 16, 3)) (kk : ∀ (H1 : Heap) (locs1 : List Loc), zH G ad (va_up en k (.inr (kM, fs.set 3 (.ref v)))) N s H1 locs1 → W p l e R s m args below meth c H1 locs1 cells slots Q (F0 m (pc + 3) ls rest)) : W p l e R s m args below meth c H locs cells slots Q (F0 m pc ls (.ref v :: .ref (ad k) :: rest)) := z_putF t_M hF hZ u_M t_M_ok n_M rfl 3 (by decide) rfl rfl fl_M_16 hnam k hk he (ty := t_M 3) (t_M_ok 3 (by decide)) rfl rfl hl hdg kk
theorem gf_M_19 (hF : CallFix p m c cc nL s args zz R_M) (hZ : zH G ad en N s H locs) (k : Nat) (hk : k < N) {fs : List Value} (he : en k = .inr (kM, fs)) {v : Value} (hv : fs[4]? = some v) (hdg : decode cc pc = .ok (.getfield 19, 3)) (kk : W p l e R s m args below meth c H locs cells slots Q (F0 m (pc + 3) ls (v :: rest))) : W p l e R s m args below meth c H locs cells slots Q (F0 m pc ls (.ref (ad k) :: rest)) := z_get hF hZ u_M rfl 4 (by decide) rfl fl_M_19 k hk he hv hdg kk
theorem pF_M_19 (hF : CallFix p m c cc nL s args zz R_M) (hZ : zH G ad en N s H locs) (hnam : meth.name = "<init>") (k : Nat) (hk : k < N) {fs : List Value} (he : en k = .inr (kM, fs)) {v : Nat} (hl : 4 < fs.length) (hdg : decode cc pc = .ok (.putfield 19, 3)) (kk : ∀ (H1 : Heap) (locs1 : List Loc), zH G ad (va_up en k (.inr (kM, fs.set 4 (.ref v)))) N s H1 locs1 → W p l e R s m args below meth c H1 locs1 cells slots Q (F0 m (pc + 3) ls rest)) : W p l e R s m args below meth c H locs cells slots Q (F0 m pc ls (.ref v :: .ref (ad k) :: rest)) := z_putF t_M hF hZ u_M t_M_ok n_M rfl 4 (by decide) rfl rfl fl_M_19 hnam k hk he (ty := t_M 4) (t_M_ok 4 (by decide)) rfl rfl hl hdg kk
theorem gf_M_37 (hF : CallFix p m c cc nL s args zz R_M) (hZ : zH G ad en N s H locs) (k : Nat) (hk : k < N) {fs : List Value} (he : en k = .inr (kM, fs)) {v : Value} (hv : fs[5]? = some v) (hdg : decode cc pc = .ok (.getfield 37, 3)) (kk : W p l e R s m args below meth c H locs cells slots Q (F0 m (pc + 3) ls (v :: rest))) : W p l e R s m args below meth c H locs cells slots Q (F0 m pc ls (.ref (ad k) :: rest)) := z_get hF hZ u_M rfl 5 (by decide) rfl fl_M_37 k hk he hv hdg kk
theorem pf_M_37 (hF : CallFix p m c cc nL s args zz R_M) (hZ : zH G ad en N s H locs) (k : Nat) (hk : k < N) {fs : List Value} (he : en k = .inr (kM, fs)) {v : Int32} (hl : 5 < fs.length) (hdg : decode cc pc = .ok (.putfield 37, 3)) (kk : ∀ (H1 : Heap) (locs1 : List Loc), zH G ad (va_up en k (.inr (kM, fs.set 5 (.int v)))) N s H1 locs1 → W p l e R s m args below meth c H1 locs1 cells slots Q (F0 m (pc + 3) ls rest)) : W p l e R s m args below meth c H locs cells slots Q (F0 m pc ls (.int v :: .ref (ad k) :: rest)) := z_put t_M hF hZ u_M t_M_ok n_M rfl 5 (by decide) rfl rfl fl_M_37 k hk he (ty := .int) (by decide +kernel) rfl rfl hl hdg kk
theorem gf_M_22 (hF : CallFix p m c cc nL s args zz R_M) (hZ : zH G ad en N s H locs) (k : Nat) (hk : k < N) {fs : List Value} (he : en k = .inr (kM, fs)) {v : Value} (hv : fs[6]? = some v) (hdg : decode cc pc = .ok (.getfield 22, 3)) (kk : W p l e R s m args below meth c H locs cells slots Q (F0 m (pc + 3) ls (v :: rest))) : W p l e R s m args below meth c H locs cells slots Q (F0 m pc ls (.ref (ad k) :: rest)) := z_get hF hZ u_M rfl 6 (by decide) rfl fl_M_22 k hk he hv hdg kk
theorem pF_M_22 (hF : CallFix p m c cc nL s args zz R_M) (hZ : zH G ad en N s H locs) (hnam : meth.name = "<init>") (k : Nat) (hk : k < N) {fs : List Value} (he : en k = .inr (kM, fs)) {v : Nat} (hl : 6 < fs.length) (hdg : decode cc pc = .ok (.putfield 22, 3)) (kk : ∀ (H1 : Heap) (locs1 : List Loc), zH G ad (va_up en k (.inr (kM, fs.set 6 (.ref v)))) N s H1 locs1 → W p l e R s m args below meth c H1 locs1 cells slots Q (F0 m (pc + 3) ls rest)) : W p l e R s m args below meth c H locs cells slots Q (F0 m pc ls (.ref v :: .ref (ad k) :: rest)) := z_putF t_M hF hZ u_M t_M_ok n_M rfl 6 (by decide) rfl rfl fl_M_22 hnam k hk he (ty := t_M 6) (t_M_ok 6 (by decide)) rfl rfl hl hdg kk
theorem gf_M_25 (hF : CallFix p m c cc nL s args zz R_M) (hZ : zH G ad en N s H locs) (k : Nat) (hk : k < N) {fs : List Value} (he : en k = .inr (kM, fs)) {v : Value} (hv : fs[7]? = some v) (hdg : decode cc pc = .ok (.getfield 25, 3)) (kk : W p l e R s m args below meth c H locs cells slots Q (F0 m (pc + 3) ls (v :: rest))) : W p l e R s m args below meth c H locs cells slots Q (F0 m pc ls (.ref (ad k) :: rest)) := z_get hF hZ u_M rfl 7 (by decide) rfl fl_M_25 k hk he hv hdg kk
theorem pF_M_25 (hF : CallFix p m c cc nL s args zz R_M) (hZ : zH G ad en N s H locs) (hnam : meth.name = "<init>") (k : Nat) (hk : k < N) {fs : List Value} (he : en k = .inr (kM, fs)) {v : Nat} (hl : 7 < fs.length) (hdg : decode cc pc = .ok (.putfield 25, 3)) (kk : ∀ (H1 : Heap) (locs1 : List Loc), zH G ad (va_up en k (.inr (kM, fs.set 7 (.ref v)))) N s H1 locs1 → W p l e R s m args below meth c H1 locs1 cells slots Q (F0 m (pc + 3) ls rest)) : W p l e R s m args below meth c H locs cells slots Q (F0 m pc ls (.ref v :: .ref (ad k) :: rest)) := z_putF t_M hF hZ u_M t_M_ok n_M rfl 7 (by decide) rfl rfl fl_M_25 hnam k hk he (ty := t_M 7) (t_M_ok 7 (by decide)) rfl rfl hl hdg kk
end ACC
theorem cw_A_13 : zcw R_A R_S 13 y_S_key b_S_key 2 (some FieldType.boolean) 1 := ⟨cd_S_key, ml_A_13, in_S, im_S_key, se_S_key, by decide +kernel, by decide +kernel, by decide +kernel⟩
theorem cw_S_43 : zcw R_S R_L 43 y_L_append b_L_append 2 (some FieldType.boolean) 1 := ⟨cd_L_append, ml_S_43, in_L, im_L_append, se_L_append, by decide +kernel, by decide +kernel, by decide +kernel⟩
theorem cw_A_18 : zcw R_A R_S 18 y_S_back b_S_back 1 (some FieldType.boolean) 0 := ⟨cd_S_back, ml_A_18, in_S, im_S_back, se_S_back, by decide +kernel, by decide +kernel, by decide +kernel⟩
theorem cw_S_47 : zcw R_S R_L 47 y_L_removeLast b_L_removeLast 1 (some FieldType.boolean) 0 := ⟨cd_L_removeLast, ml_S_47, in_L, im_L_removeLast, se_L_removeLast, by decide +kernel, by decide +kernel, by decide +kernel⟩
theorem cw_A_23 : zcw R_A R_S 23 y_S_wipe b_S_wipe 1 none 0 := ⟨cd_S_wipe, ml_A_23, in_S, im_S_wipe, se_S_wipe, by decide +kernel, by decide +kernel, by decide +kernel⟩
theorem cw_S_51 : zcw R_S R_L 51 y_L_clear b_L_clear 1 none 0 := ⟨cd_L_clear, ml_S_51, in_L, im_L_clear, se_L_clear, by decide +kernel, by decide +kernel, by decide +kernel⟩
theorem cw_A_27 : zcw R_A R_S 27 y_S_length b_S_length 1 (some FieldType.int) 0 := ⟨cd_S_length, ml_A_27, in_S, im_S_length, se_S_length, by decide +kernel, by decide +kernel, by decide +kernel⟩
theorem cw_A_32 : zcw R_A R_S 32 y_S_typed b_S_typed 2 (some FieldType.int) 1 := ⟨cd_S_typed, ml_A_32, in_S, im_S_typed, se_S_typed, by decide +kernel, by decide +kernel, by decide +kernel⟩
theorem cw_S_58 : zcw R_S R_L 58 y_L_at b_L_at 2 (some FieldType.int) 1 := ⟨cd_L_at, ml_S_58, in_L, im_L_at, se_L_at, by decide +kernel, by decide +kernel, by decide +kernel⟩
theorem cw_A_37 : zcw R_A R_S 37 y_S_learn b_S_learn 3 (some FieldType.int) 1 := ⟨cd_S_learn, ml_A_37, in_S, im_S_learn, se_S_learn, by decide +kernel, by decide +kernel, by decide +kernel⟩
theorem cw_S_63 : zcw R_S R_D 63 y_D_find b_D_find 3 (some FieldType.int) 1 := ⟨cd_D_find, ml_S_63, in_D, im_D_find, se_D_find, by decide +kernel, by decide +kernel, by decide +kernel⟩
theorem cw_D_36 : zcw R_D R_L 36 y_L_isSameAs b_L_isSameAs 2 (some FieldType.boolean) 1 := ⟨cd_L_isSameAs, ml_D_36, in_L, im_L_isSameAs, se_L_isSameAs, by decide +kernel, by decide +kernel, by decide +kernel⟩
theorem cw_L_30 : zcw R_L R_L 30 y_L_beginsWith b_L_beginsWith 3 (some FieldType.boolean) 1 := ⟨cd_L_beginsWith, ml_L_30, in_L, im_L_beginsWith, se_L_beginsWith, by decide +kernel, by decide +kernel, by decide +kernel⟩
theorem cw_L_22 : zcw R_L R_L 22 y_L_at b_L_at 2 (some FieldType.int) 1 := ⟨cd_L_at, ml_L_22, in_L, im_L_at, se_L_at, by decide +kernel, by decide +kernel, by decide +kernel⟩
theorem cw_S_67 : zcw R_S R_D 67 y_D_addTimes b_D_addTimes 3 none 2 := ⟨cd_D_addTimes, ml_S_67, in_D, im_D_addTimes, se_D_addTimes, by decide +kernel, by decide +kernel, by decide +kernel⟩
theorem cw_S_71 : zcw R_S R_D 71 y_D_insert b_D_insert 6 (some FieldType.boolean) 2 := ⟨cd_D_insert, ml_S_71, in_D, im_D_insert, se_D_insert, by decide +kernel, by decide +kernel, by decide +kernel⟩
theorem cw_D_42 : zcw R_D R_L 42 y_L_copyFrom b_L_copyFrom 3 none 1 := ⟨cd_L_copyFrom, ml_D_42, in_L, im_L_copyFrom, se_L_copyFrom, by decide +kernel, by decide +kernel, by decide +kernel⟩
theorem cw_L_19 : zcw R_L R_L 19 y_L_clear b_L_clear 1 none 0 := ⟨cd_L_clear, ml_L_19, in_L, im_L_clear, se_L_clear, by decide +kernel, by decide +kernel, by decide +kernel⟩
theorem cw_L_26 : zcw R_L R_L 26 y_L_append b_L_append 2 (some FieldType.boolean) 1 := ⟨cd_L_append, ml_L_26, in_L, im_L_append, se_L_append, by decide +kernel, by decide +kernel, by decide +kernel⟩
theorem cw_D_46 : zcw R_D R_D 46 y_D_placeFor b_D_placeFor 4 (some FieldType.int) 1 := ⟨cd_D_placeFor, ml_D_46, in_D, im_D_placeFor, se_D_placeFor, by decide +kernel, by decide +kernel, by decide +kernel⟩
theorem cw_D_54 : zcw R_D R_L 54 y_L_isBefore b_L_isBefore 3 (some FieldType.boolean) 1 := ⟨cd_L_isBefore, ml_D_54, in_L, im_L_isBefore, se_L_isBefore, by decide +kernel, by decide +kernel, by decide +kernel⟩
theorem cw_A_41 : zcw R_A R_S 41 y_S_forget b_S_forget 2 (some FieldType.boolean) 1 := ⟨cd_S_forget, ml_A_41, in_S, im_S_forget, se_S_forget, by decide +kernel, by decide +kernel, by decide +kernel⟩
theorem cw_S_75 : zcw R_S R_D 75 y_D_remove b_D_remove 4 (some FieldType.boolean) 1 := ⟨cd_D_remove, ml_S_75, in_D, im_D_remove, se_D_remove, by decide +kernel, by decide +kernel, by decide +kernel⟩
theorem cw_D_50 : zcw R_D R_D 50 y_D_has b_D_has 2 (some FieldType.boolean) 1 := ⟨cd_D_has, ml_D_50, in_D, im_D_has, se_D_has, by decide +kernel, by decide +kernel, by decide +kernel⟩
theorem cw_A_45 : zcw R_A R_S 45 y_S_words b_S_words 1 (some FieldType.int) 0 := ⟨cd_S_words, ml_A_45, in_S, im_S_words, se_S_words, by decide +kernel, by decide +kernel, by decide +kernel⟩
theorem cw_A_49 : zcw R_A R_S 49 y_S_letter b_S_letter 3 (some FieldType.int) 2 := ⟨cd_S_letter, ml_A_49, in_S, im_S_letter, se_S_letter, by decide +kernel, by decide +kernel, by decide +kernel⟩
theorem cw_S_79 : zcw R_S R_D 79 y_D_has b_D_has 2 (some FieldType.boolean) 1 := ⟨cd_D_has, ml_S_79, in_D, im_D_has, se_D_has, by decide +kernel, by decide +kernel, by decide +kernel⟩
theorem cw_S_82 : zcw R_S R_D 82 y_D_lettersOf b_D_lettersOf 2 (some (FieldType.object "SpellDesk$Letters")) 1 := ⟨cd_D_lettersOf, ml_S_82, in_D, im_D_lettersOf, se_D_lettersOf, by decide +kernel, by decide +kernel, by decide +kernel⟩
theorem cw_A_54 : zcw R_A R_S 54 y_S_count b_S_count 2 (some FieldType.int) 1 := ⟨cd_S_count, ml_A_54, in_S, im_S_count, se_S_count, by decide +kernel, by decide +kernel, by decide +kernel⟩
theorem cw_S_86 : zcw R_S R_D 86 y_D_timesOf b_D_timesOf 2 (some FieldType.int) 1 := ⟨cd_D_timesOf, ml_S_86, in_D, im_D_timesOf, se_D_timesOf, by decide +kernel, by decide +kernel, by decide +kernel⟩
theorem cw_A_58 : zcw R_A R_S 58 y_S_rank b_S_rank 1 (some FieldType.int) 0 := ⟨cd_S_rank, ml_A_58, in_S, im_S_rank, se_S_rank, by decide +kernel, by decide +kernel, by decide +kernel⟩
theorem cw_A_62 : zcw R_A R_S 62 y_S_distance b_S_distance 2 (some FieldType.int) 1 := ⟨cd_S_distance, ml_A_62, in_S, im_S_distance, se_S_distance, by decide +kernel, by decide +kernel, by decide +kernel⟩
theorem cw_S_89 : zcw R_S R_E 89 y_E_measure b_E_measure 5 (some FieldType.int) 2 := ⟨cd_E_measure, ml_S_89, in_E, im_E_measure, se_E_measure, by decide +kernel, by decide +kernel, by decide +kernel⟩
theorem cw_E_22 : zcw R_E R_E 22 y_E_leastCost b_E_leastCost 7 (some FieldType.int) 4 := ⟨cd_E_leastCost, ml_E_22, in_E, im_E_leastCost, se_E_leastCost, by decide +kernel, by decide +kernel, by decide +kernel⟩
theorem cw_E_33 : zcw R_E R_L 33 y_L_at b_L_at 2 (some FieldType.int) 1 := ⟨cd_L_at, ml_E_33, in_L, im_L_at, se_L_at, by decide +kernel, by decide +kernel, by decide +kernel⟩
theorem cw_A_66 : zcw R_A R_S 66 y_S_near b_S_near 4 (some FieldType.int) 1 := ⟨cd_S_near, ml_A_66, in_S, im_S_near, se_S_near, by decide +kernel, by decide +kernel, by decide +kernel⟩
theorem cw_S_93 : zcw R_S R_S 93 y_S_measureAll b_S_measureAll 2 none 0 := ⟨cd_S_measureAll, ml_S_93, in_S, im_S_measureAll, se_S_measureAll, by decide +kernel, by decide +kernel, by decide +kernel⟩
theorem cw_A_70 : zcw R_A R_S 70 y_S_suggest b_S_suggest 4 (some FieldType.int) 2 := ⟨cd_S_suggest, ml_A_70, in_S, im_S_suggest, se_S_suggest, by decide +kernel, by decide +kernel, by decide +kernel⟩
theorem cw_S_96 : zcw R_S R_S 96 y_S_placeAmongSuggestions b_S_placeAmongSuggestions 4 (some FieldType.int) 1 := ⟨cd_S_placeAmongSuggestions, ml_S_96, in_S, im_S_placeAmongSuggestions, se_S_placeAmongSuggestions, by decide +kernel, by decide +kernel, by decide +kernel⟩
theorem cw_S_113 : zcw R_S R_S 113 y_S_isSuggestedBefore b_S_isSuggestedBefore 3 (some FieldType.boolean) 2 := ⟨cd_S_isSuggestedBefore, ml_S_113, in_S, im_S_isSuggestedBefore, se_S_isSuggestedBefore, by decide +kernel, by decide +kernel, by decide +kernel⟩
theorem cw_S_117 : zcw R_S R_D 117 y_D_isPreferred b_D_isPreferred 3 (some FieldType.boolean) 2 := ⟨cd_D_isPreferred, ml_S_117, in_D, im_D_isPreferred, se_D_isPreferred, by decide +kernel, by decide +kernel, by decide +kernel⟩
theorem cw_A_74 : zcw R_A R_S 74 y_S_complete b_S_complete 3 (some FieldType.int) 1 := ⟨cd_S_complete, ml_A_74, in_S, im_S_complete, se_S_complete, by decide +kernel, by decide +kernel, by decide +kernel⟩
theorem cw_S_99 : zcw R_S R_S 99 y_S_isCompletion b_S_isCompletion 2 (some FieldType.boolean) 1 := ⟨cd_S_isCompletion, ml_S_99, in_S, im_S_isCompletion, se_S_isCompletion, by decide +kernel, by decide +kernel, by decide +kernel⟩
theorem cw_S_120 : zcw R_S R_L 120 y_L_beginsWith b_L_beginsWith 3 (some FieldType.boolean) 1 := ⟨cd_L_beginsWith, ml_S_120, in_L, im_L_beginsWith, se_L_beginsWith, by decide +kernel, by decide +kernel, by decide +kernel⟩
theorem cw_S_102 : zcw R_S R_S 102 y_S_placeAmongCompletions b_S_placeAmongCompletions 4 (some FieldType.int) 1 := ⟨cd_S_placeAmongCompletions, ml_S_102, in_S, im_S_placeAmongCompletions, se_S_placeAmongCompletions, by decide +kernel, by decide +kernel, by decide +kernel⟩
theorem cw_A_78 : zcw R_A R_S 78 y_S_edit b_S_edit 3 (some FieldType.int) 2 := ⟨cd_S_edit, ml_A_78, in_S, im_S_edit, se_S_edit, by decide +kernel, by decide +kernel, by decide +kernel⟩
theorem cw_S_105 : zcw R_S R_E 105 y_E_editAt b_E_editAt 8 (some FieldType.int) 3 := ⟨cd_E_editAt, ml_S_105, in_E, im_E_editAt, se_E_editAt, by decide +kernel, by decide +kernel, by decide +kernel⟩
theorem cw_E_26 : zcw R_E R_E 26 y_E_measure b_E_measure 5 (some FieldType.int) 2 := ⟨cd_E_measure, ml_E_26, in_E, im_E_measure, se_E_measure, by decide +kernel, by decide +kernel, by decide +kernel⟩
theorem cw_E_30 : zcw R_E R_E 30 y_E_firstEdit b_E_firstEdit 6 (some FieldType.int) 4 := ⟨cd_E_firstEdit, ml_E_30, in_E, im_E_firstEdit, se_E_firstEdit, by decide +kernel, by decide +kernel, by decide +kernel⟩
theorem cw_A_82 : zcw R_A R_S 82 y_S_drops b_S_drops 2 (some FieldType.int) 1 := ⟨cd_S_drops, ml_A_82, in_S, im_S_drops, se_S_drops, by decide +kernel, by decide +kernel, by decide +kernel⟩
theorem cw_S_109 : zcw R_S R_R 109 y_R_listsOf b_R_listsOf 5 (some FieldType.int) 2 := ⟨cd_R_listsOf, ml_S_109, in_R, im_R_listsOf, se_R_listsOf, by decide +kernel, by decide +kernel, by decide +kernel⟩
theorem cw_R_22 : zcw R_R R_R 22 y_R_listsWithin b_R_listsWithin 7 (some FieldType.int) 3 := ⟨cd_R_listsWithin, ml_R_22, in_R, im_R_listsWithin, se_R_listsWithin, by decide +kernel, by decide +kernel, by decide +kernel⟩
theorem cw_R_26 : zcw R_R R_R 26 y_R_placeBefore b_R_placeBefore 4 (some FieldType.int) 2 := ⟨cd_R_placeBefore, ml_R_26, in_R, im_R_placeBefore, se_R_placeBefore, by decide +kernel, by decide +kernel, by decide +kernel⟩
theorem cw_R_30 : zcw R_R R_L 30 y_L_at b_L_at 2 (some FieldType.int) 1 := ⟨cd_L_at, ml_R_30, in_L, im_L_at, se_L_at, by decide +kernel, by decide +kernel, by decide +kernel⟩
theorem cw_A_17 : zcw R_A R_M 17 y_M_key b_M_key 2 (some FieldType.boolean) 1 := ⟨cd_M_key, ml_A_17, in_M, im_M_key, se_M_key, by decide +kernel, by decide +kernel, by decide +kernel⟩
theorem cw_A_22 : zcw R_A R_M 22 y_M_back b_M_back 1 (some FieldType.boolean) 0 := ⟨cd_M_back, ml_A_22, in_M, im_M_back, se_M_back, by decide +kernel, by decide +kernel, by decide +kernel⟩
theorem cw_A_26 : zcw R_A R_M 26 y_M_wipe b_M_wipe 1 none 0 := ⟨cd_M_wipe, ml_A_26, in_M, im_M_wipe, se_M_wipe, by decide +kernel, by decide +kernel, by decide +kernel⟩
theorem cw_A_31 : zcw R_A R_M 31 y_M_length b_M_length 1 (some FieldType.int) 0 := ⟨cd_M_length, ml_A_31, in_M, im_M_length, se_M_length, by decide +kernel, by decide +kernel, by decide +kernel⟩
theorem cw_A_36 : zcw R_A R_M 36 y_M_typed b_M_typed 2 (some FieldType.int) 1 := ⟨cd_M_typed, ml_A_36, in_M, im_M_typed, se_M_typed, by decide +kernel, by decide +kernel, by decide +kernel⟩
theorem cw_A_40 : zcw R_A R_M 40 y_M_learn b_M_learn 4 (some FieldType.int) 1 := ⟨cd_M_learn, ml_A_40, in_M, im_M_learn, se_M_learn, by decide +kernel, by decide +kernel, by decide +kernel⟩
theorem cw_M_53 : zcw R_M R_M 53 y_M_same b_M_same 2 (some FieldType.int) 0 := ⟨cd_M_same, ml_M_53, in_M, im_M_same, se_M_same, by decide +kernel, by decide +kernel, by decide +kernel⟩
theorem cw_M_48 : zcw R_M R_M 48 y_M_beginsTyped b_M_beginsTyped 3 (some FieldType.boolean) 1 := ⟨cd_M_beginsTyped, ml_M_48, in_M, im_M_beginsTyped, se_M_beginsTyped, by decide +kernel, by decide +kernel, by decide +kernel⟩
theorem cw_A_44 : zcw R_A R_M 44 y_M_forget b_M_forget 4 (some FieldType.boolean) 1 := ⟨cd_M_forget, ml_A_44, in_M, im_M_forget, se_M_forget, by decide +kernel, by decide +kernel, by decide +kernel⟩
theorem cw_M_57 : zcw R_M R_M 57 y_M_place b_M_place 3 (some FieldType.int) 1 := ⟨cd_M_place, ml_M_57, in_M, im_M_place, se_M_place, by decide +kernel, by decide +kernel, by decide +kernel⟩
theorem cw_M_44 : zcw R_M R_M 44 y_M_rankOf b_M_rankOf 4 (some FieldType.int) 1 := ⟨cd_M_rankOf, ml_M_44, in_M, im_M_rankOf, se_M_rankOf, by decide +kernel, by decide +kernel, by decide +kernel⟩
theorem cw_M_40 : zcw R_M R_M 40 y_M_before b_M_before 4 (some FieldType.boolean) 2 := ⟨cd_M_before, ml_M_40, in_M, im_M_before, se_M_before, by decide +kernel, by decide +kernel, by decide +kernel⟩
theorem cw_M_33 : zcw R_M R_M 33 y_M_at b_M_at 3 (some FieldType.int) 2 := ⟨cd_M_at, ml_M_33, in_M, im_M_at, se_M_at, by decide +kernel, by decide +kernel, by decide +kernel⟩
theorem cw_A_48 : zcw R_A R_M 48 y_M_words b_M_words 1 (some FieldType.int) 0 := ⟨cd_M_words, ml_A_48, in_M, im_M_words, se_M_words, by decide +kernel, by decide +kernel, by decide +kernel⟩
theorem cw_A_53 : zcw R_A R_M 53 y_M_letter b_M_letter 4 (some FieldType.int) 2 := ⟨cd_M_letter, ml_A_53, in_M, im_M_letter, se_M_letter, by decide +kernel, by decide +kernel, by decide +kernel⟩
theorem cw_A_57 : zcw R_A R_M 57 y_M_count b_M_count 3 (some FieldType.int) 1 := ⟨cd_M_count, ml_A_57, in_M, im_M_count, se_M_count, by decide +kernel, by decide +kernel, by decide +kernel⟩
theorem cw_A_61 : zcw R_A R_M 61 y_M_rank b_M_rank 2 (some FieldType.int) 0 := ⟨cd_M_rank, ml_A_61, in_M, im_M_rank, se_M_rank, by decide +kernel, by decide +kernel, by decide +kernel⟩
theorem cw_A_65 : zcw R_A R_M 65 y_M_distance b_M_distance 3 (some FieldType.int) 1 := ⟨cd_M_distance, ml_A_65, in_M, im_M_distance, se_M_distance, by decide +kernel, by decide +kernel, by decide +kernel⟩
theorem cw_M_64 : zcw R_M R_M 64 y_M_far b_M_far 8 (some FieldType.int) 3 := ⟨cd_M_far, ml_M_64, in_M, im_M_far, se_M_far, by decide +kernel, by decide +kernel, by decide +kernel⟩
theorem cw_M_60 : zcw R_M R_M 60 y_M_reach b_M_reach 3 none 2 := ⟨cd_M_reach, ml_M_60, in_M, im_M_reach, se_M_reach, by decide +kernel, by decide +kernel, by decide +kernel⟩
theorem cw_A_69 : zcw R_A R_M 69 y_M_near b_M_near 4 (some FieldType.int) 1 := ⟨cd_M_near, ml_A_69, in_M, im_M_near, se_M_near, by decide +kernel, by decide +kernel, by decide +kernel⟩
theorem cw_A_73 : zcw R_A R_M 73 y_M_suggest b_M_suggest 8 (some FieldType.int) 2 := ⟨cd_M_suggest, ml_A_73, in_M, im_M_suggest, se_M_suggest, by decide +kernel, by decide +kernel, by decide +kernel⟩
theorem cw_M_68 : zcw R_M R_M 68 y_M_better b_M_better 5 (some FieldType.boolean) 4 := ⟨cd_M_better, ml_M_68, in_M, im_M_better, se_M_better, by decide +kernel, by decide +kernel, by decide +kernel⟩
theorem cw_A_77 : zcw R_A R_M 77 y_M_complete b_M_complete 5 (some FieldType.int) 1 := ⟨cd_M_complete, ml_A_77, in_M, im_M_complete, se_M_complete, by decide +kernel, by decide +kernel, by decide +kernel⟩
theorem cw_A_81 : zcw R_A R_M 81 y_M_edit b_M_edit 9 (some FieldType.int) 2 := ⟨cd_M_edit, ml_A_81, in_M, im_M_edit, se_M_edit, by decide +kernel, by decide +kernel, by decide +kernel⟩
theorem cw_M_72 : zcw R_M R_M 72 y_M_next b_M_next 9 (some FieldType.int) 4 := ⟨cd_M_next, ml_M_72, in_M, im_M_next, se_M_next, by decide +kernel, by decide +kernel, by decide +kernel⟩
theorem cw_A_85 : zcw R_A R_M 85 y_M_drops b_M_drops 8 (some FieldType.int) 1 := ⟨cd_M_drops, ml_A_85, in_M, im_M_drops, se_M_drops, by decide +kernel, by decide +kernel, by decide +kernel⟩
theorem cw_M_81 : zcw R_M R_M 81 y_M_left b_M_left 5 (some FieldType.long) 1 := ⟨cd_M_left, ml_M_81, in_M, im_M_left, se_M_left, by decide +kernel, by decide +kernel, by decide +kernel⟩
end
section
/-! pictures: what the roles hold -/
abbrev z_refs (f : Nat → Option Nat) : (Nat → Int32) ⊕ (Nat → Int64) ⊕ (Nat → UInt32) ⊕ (Nat → UInt64) ⊕ (Nat → Option Nat) := .inr (.inr (.inr (.inr f)))
/-- a list of letters: its object at role k, its row at role ka -/
def pL (G : zG) (ad : Nat → Nat) (en : Nat → va_E) (k ka cap : Nat) (xs : List Nat) : Prop := en k = .inr (kL, [.ref (ad ka), .int (nI xs.length)]) ∧ xs.length ≤ cap ∧ w26 xs ∧ ∃ f : Nat → Int32, en ka = .inl (zI G, cap, .inl f) ∧ ∀ i, i < xs.length → f i = nI (xs.getD i 0)
theorem pL.keep {G : zG} {ad : Nat → Nat} {en en1 : Nat → va_E} {k ka cap : Nat} {xs : List Nat} (h : pL G ad en k ka cap xs) (h1 : en1 k = en k) (h2 : en1 ka = en ka) : pL G ad en1 k ka cap xs := by
  unfold pL at h ⊢; rw [h1, h2]; exact h
/-- the dictionary: its object at role 3, its row at role 4, word j at roles 5 + 3 j, 6 + 3 j, 7 + 3 j; the word of rank k is word sg k -/
def pD (G : zG) (ad : Nat → Nat) (en : Nat → va_E) (sg : Nat → Nat) (C : List wd_W) : Prop :=
  en 3 = .inr (kD, [.ref (ad 4), .int (nI C.length)]) ∧ C.length ≤ 24 ∧ (∃ g : Nat → Option Nat, en 4 = .inl (zO G, 24, z_refs g) ∧ ∀ k, k < 24 → g k = some (ad (5 + 3 * sg k))) ∧ (∀ k, k < 24 → sg k < 24) ∧ (∀ i j, i < 24 → j < 24 → sg i = sg j → i = j) ∧
  (∀ j, j < 24 → (∃ t : Int32, en (5 + 3 * j) = .inr (kW, [.ref (ad (6 + 3 * j)), .int t])) ∧ ∃ xs, pL G ad en (6 + 3 * j) (7 + 3 * j) 8 xs) ∧
  ∀ k w, C[k]? = some w → en (5 + 3 * sg k) = .inr (kW, [.ref (ad (6 + 3 * sg k)), .int (nI w.2)]) ∧ pL G ad en (6 + 3 * sg k) (7 + 3 * sg k) 8 w.1 ∧ w.2 ≤ 1000000
theorem pD.keep {G : zG} {ad : Nat → Nat} {en en1 : Nat → va_E} {sg : Nat → Nat} {C : List wd_W} (h : pD G ad en sg C) (hk : ∀ r, 3 ≤ r → r < 77 → en1 r = en r) : pD G ad en1 sg C := by
  obtain ⟨h1, h2, ⟨g, h3, h3'⟩, h4, h5, h6, h7⟩ := h
  refine ⟨by rw [hk 3 (by omega) (by omega)]; exact h1, h2, ⟨g, by rw [hk 4 (by omega) (by omega)]; exact h3, h3'⟩, h4, h5, fun j hj => ?_, fun k w hw => ?_⟩
  · obtain ⟨⟨t, a⟩, xs, b⟩ := h6 j hj
    exact ⟨⟨t, by rw [hk _ (by omega) (by omega)]; exact a⟩, xs, b.keep (hk _ (by omega) (by omega)) (hk _ (by omega) (by omega))⟩
  · obtain ⟨a, b, d⟩ := h7 k w hw
    have := h4 k (by have := wd_lt_of hw; omega)
    exact ⟨by rw [hk _ (by omega) (by omega)]; exact a, b.keep (hk _ (by omega) (by omega)) (hk _ (by omega) (by omega)), d⟩
/-- a table of ints: its object at role k (of class c), its rows at role k + 1, row i at role k + 2 + i -/
def pT (G : zG) (ad : Nat → Nat) (en : Nat → va_E) (k c wd : Nat) (M : Nat → Nat → Int32) : Prop := en k = .inr (c, [.ref (ad (k + 1))]) ∧ (∃ g : Nat → Option Nat, en (k + 1) = .inl (zM G, 11, z_refs g) ∧ ∀ i, i < 11 → g i = some (ad (k + 2 + i))) ∧ ∀ i, i < 11 → en (k + 2 + i) = .inl (zI G, wd, .inl (M i))
theorem pT.keep {G : zG} {ad : Nat → Nat} {en en1 : Nat → va_E} {k c wd : Nat} {M : Nat → Nat → Int32} (h : pT G ad en k c wd M) (hk : ∀ r, k ≤ r → r < k + 13 → en1 r = en r) : pT G ad en1 k c wd M := by
  obtain ⟨h1, ⟨g, h2, h2'⟩, h3⟩ := h
  exact ⟨by rw [hk k (by omega) (by omega)]; exact h1, ⟨g, by rw [hk _ (by omega) (by omega)]; exact h2, h2'⟩, fun i hi => by rw [hk _ (by omega) (by omega)]; exact h3 i hi⟩
/-- one number of a table is written -/
def tset (M : Nat → Nat → Int32) (i j : Nat) (x : Int32) : Nat → Nat → Int32 := fun a b => if a = i ∧ b = j then x else M a b
theorem pT.set {G : zG} {ad : Nat → Nat} {en : Nat → va_E} {k c wd : Nat} {M : Nat → Nat → Int32} (h : pT G ad en k c wd M) {i j : Nat} {x : Int32} (hi : i < 11) : pT G ad (va_up en (k + 2 + i) (.inl (zI G, wd, .inl (upd (M i) j x)))) k c wd (tset M i j x) := by
  obtain ⟨h1, ⟨g, h2, h2'⟩, h3⟩ := h
  refine ⟨by rw [va_up_ne _ _ (by omega)]; exact h1, ⟨g, by rw [va_up_ne _ _ (by omega)]; exact h2, h2'⟩, fun a ha => ?_⟩
  by_cases e : a = i
  · subst e
    rw [va_up_self]
    congr 4
    funext b
    unfold upd tset
    by_cases q : b = j
    · rw [if_pos q, if_pos ⟨rfl, q⟩]
    · rw [if_neg q, if_neg (fun z => q z.2)]
  · rw [va_up_ne _ _ (by omega), h3 a ha]
    congr 4
    funext b
    unfold tset
    rw [if_neg (fun z => e z.1)]
/-- the desk -/
def pS (G : zG) (ad : Nat → Nat) (en : Nat → va_E) (T : List Nat) (sg : Nat → Nat) (C : List wd_W) : Prop :=
  en 0 = .inr (kS, [.ref (ad 1), .ref (ad 3), .ref (ad 77), .ref (ad 90), .ref (ad 103)]) ∧ pL G ad en 1 2 10 T ∧ pD G ad en sg C ∧ (∃ M, pT G ad en 77 kE 9 M) ∧ (∃ M, pT G ad en 90 kR 11 M) ∧ ∃ f : Nat → Int32, en 103 = .inl (zI G, 24, .inl f)
/-- the reference: its object at role 104, its rows behind it -/
def pM (G : zG) (ad : Nat → Nat) (en : Nat → va_E) (T : List Nat) (mw : List wd_W) : Prop :=
  en 104 = .inr (kM, [.ref (ad 105), .int (nI T.length), .ref (ad 106), .ref (ad 107), .ref (ad 108), .int (nI mw.length), .ref (ad 109), .ref (ad 110)]) ∧ T.length ≤ 10 ∧ w26 T ∧ mw.length ≤ 24 ∧ (∃ f : Nat → Int32, en 105 = .inl (zI G, 10, .inl f) ∧ ∀ i, i < T.length → f i = nI (T.getD i 0)) ∧
  (∃ fl fs fc : Nat → Int32, en 106 = .inl (zI G, 192, .inl fl) ∧ en 107 = .inl (zI G, 24, .inl fs) ∧ en 108 = .inl (zI G, 24, .inl fc) ∧ ∀ w v, mw[w]? = some v → v.1.length ≤ 8 ∧ w26 v.1 ∧ v.2 ≤ 1000000 ∧ fs w = nI v.1.length ∧ fc w = nI v.2 ∧ ∀ i, i < v.1.length → fl (8 * w + i) = nI (v.1.getD i 0)) ∧
  (∃ f : Nat → Int32, en 109 = .inl (zI G, 99, .inl f)) ∧ ∃ f : Nat → Int64, en 110 = .inl (zJ G, 252, .inr (.inl f))
end
section
theorem wd_take_s {ys : List Nat} {i : Nat} (h : i < ys.length) : ys.take (i + 1) = ys.take i ++ [ys.getD i 0] := by
  rw [List.take_succ, List.getD_eq_getElem?_getD, List.getElem?_eq_getElem h]; rfl
set_option maxHeartbeats 4000000 in
set_option maxRecDepth 100000 in
theorem c_L_at (l : Launch) {G : zG} {ad : Nat → Nat} {en : Nat → va_E} {N : Nat} {k ka cap : Nat} {xs : List Nat} (hk : k < N) (hka : ka < N) (hne : k ≠ ka) (hcap : cap < 2 ^ 31) (h : pL G ad en k ka cap xs) (i : Int32) : zMi l y_L_at b_L_at 2 .int 1 G ad en N [.ref (ad (k)), .int (i)] (fun v en1 => en1 = en ∧ v = iv (atv xs i)) := by
  obtain ⟨e1, h1, h26, f, e2, h2⟩ := h
  refine z_met (by decide) (Nat.le_of_ble_eq_true rfl) ?_
  intro p e s m below meth c ls hF hr hlocks hnam hZ hl
  have hF : CallFix p m c b_L_at 2 s ([.ref (ad (k)), .int (i)] : List Value).toArray zz R_L := hF
  have hl : lv_has ls 2 [(0, .ref (ad (k))), (1, .int (i))] := hl
  rcases pk_ix i (n := xs.length) (by omega) with h3 | h3 | ⟨j, hj, rfl⟩
  · refine lv_iload_n hF.1 hF.2.1 d_L_at_0 rfl (lv_at hl 1 rfl) ?_
    refine lv_if_lt (tgt := 21) hF.1 hF.2.1 d_L_at_1 (by decide) (fun _ => ?_) (fun h => absurd h3 h)
    refine lv_iconst (v := ((-1))) hF.1 hF.2.1 d_L_at_21 (by decide) ?_
    exact z_iret hF hr hlocks hZ rfl ⟨rfl, by rw [atv_neg h3]; exact iv_0.symm⟩ d_L_at_22
  · have h4 : ¬ i < 0 := fun q => by
      rw [Int32.lt_iff_toInt_lt, Int32.toInt_zero] at q
      rw [Int32.le_iff_toInt_le, nI_toInt (by omega)] at h3
      omega
    refine lv_iload_n hF.1 hF.2.1 d_L_at_0 rfl (lv_at hl 1 rfl) ?_
    refine lv_if_lt (tgt := 21) hF.1 hF.2.1 d_L_at_1 (by decide) (fun h => absurd h h4) (fun _ => ?_)
    refine lv_iload_n hF.1 hF.2.1 d_L_at_4 rfl (lv_at hl 1 rfl) ?_
    refine lv_aload_n hF.1 hF.2.1 d_L_at_5 rfl (lv_at hl 0 rfl) ?_
    refine gf_L_15 hF hZ (k) hk e1 rfl d_L_at_6 ?_
    refine lv_icmp_ge (tgt := 21) hF.1 hF.2.1 d_L_at_9 (by decide) (fun _ => ?_) (fun h => absurd h3 h)
    refine lv_iconst (v := ((-1))) hF.1 hF.2.1 d_L_at_21 (by decide) ?_
    exact z_iret hF hr hlocks hZ rfl ⟨rfl, by rw [atv_big (by omega) h3 (Nat.le_refl _)]; exact iv_0.symm⟩ d_L_at_22
  · refine lv_iload_n hF.1 hF.2.1 d_L_at_0 rfl (lv_at hl 1 rfl) ?_
    refine lv_if_lt (tgt := 21) hF.1 hF.2.1 d_L_at_1 (by decide) (fun h => absurd h (nI_pos (by omega))) (fun _ => ?_)
    refine lv_iload_n hF.1 hF.2.1 d_L_at_4 rfl (lv_at hl 1 rfl) ?_
    refine lv_aload_n hF.1 hF.2.1 d_L_at_5 rfl (lv_at hl 0 rfl) ?_
    refine gf_L_15 hF hZ (k) hk e1 rfl d_L_at_6 ?_
    refine lv_icmp_ge (tgt := 21) hF.1 hF.2.1 d_L_at_9 (by decide) (fun h => absurd h (nI_ge hj (by omega))) (fun _ => ?_)
    refine lv_aload_n hF.1 hF.2.1 d_L_at_12 rfl (lv_at hl 0 rfl) ?_
    refine gf_L_9 hF hZ (k) hk e1 rfl d_L_at_13 ?_
    refine lv_iload_n hF.1 hF.2.1 d_L_at_16 rfl (lv_at hl 1 rfl) ?_
    refine z_iald hF hZ (ka) hka e2 (j) (by omega) (by omega) d_L_at_17 ?_
    refine lv_goto (tgt := 22) hF.1 hF.2.1 d_L_at_18 (by decide) ?_
    exact z_iret hF hr hlocks hZ rfl ⟨rfl, by rw [atv_nI (by omega), wd_cd_in hj, iv_s, h2 j hj]⟩ d_L_at_22
theorem c_L_atN (l : Launch) {G : zG} {ad : Nat → Nat} {en : Nat → va_E} {N : Nat} {k ka cap : Nat} {xs : List Nat} (hk : k < N) (hka : ka < N) (hne : k ≠ ka) (hcap : cap < 2 ^ 31) (h : pL G ad en k ka cap xs) {j : Nat} (hj : j < 2 ^ 31) : zMi l y_L_at b_L_at 2 .int 1 G ad en N [.ref (ad (k)), .int (nI (j))] (fun v en1 => en1 = en ∧ v = iv (wd_cd xs j)) := by
  have q := c_L_at l hk hka hne hcap h (nI j)
  rw [atv_nI hj] at q
  exact q
set_option maxHeartbeats 4000000 in
set_option maxRecDepth 100000 in
theorem c_L_append (l : Launch) {G : zG} {ad : Nat → Nat} {en : Nat → va_E} {N : Nat} {k ka cap : Nat} {xs : List Nat} (hk : k < N) (hka : ka < N) (hne : k ≠ ka) (hcap : cap < 2 ^ 31) (h : pL G ad en k ka cap xs) {x : Nat} (hx : x < 26) (hlen : xs.length < cap) : zMi l y_L_append b_L_append 2 .boolean 1 G ad en N [.ref (ad (k)), .int (nI (x))] (fun v en1 => v = 1 ∧ pL G ad en1 k ka cap (xs ++ [x]) ∧ ∀ r, r ≠ k → r ≠ ka → en1 r = en r) := by
  obtain ⟨e1, h1, h26, f, e2, h2⟩ := h
  refine z_met (by decide) (Nat.le_of_ble_eq_true rfl) ?_
  intro p e s m below meth c ls hF hr hlocks hnam hZ hl
  have hF : CallFix p m c b_L_append 2 s ([.ref (ad (k)), .int (nI (x))] : List Value).toArray zz R_L := hF
  have hl : lv_has ls 2 [(0, .ref (ad (k))), (1, .int (nI (x)))] := hl
  refine lv_iload_n hF.1 hF.2.1 d_L_append_0 rfl (lv_at hl 1 rfl) ?_
  refine lv_if_lt (tgt := 22) hF.1 hF.2.1 d_L_append_1 (by decide) (fun h => absurd h (nI_pos (by omega))) (fun _ => ?_)
  refine lv_iload_n hF.1 hF.2.1 d_L_append_4 rfl (lv_at hl 1 rfl) ?_
  refine lv_bipush (v := (nI (26))) hF.1 hF.2.1 d_L_append_5 (by decide) ?_
  refine lv_icmp_ge (tgt := 22) hF.1 hF.2.1 d_L_append_7 (by decide) (fun h => absurd h (nI_ge hx (by omega))) (fun _ => ?_)
  refine lv_aload_n hF.1 hF.2.1 d_L_append_10 rfl (lv_at hl 0 rfl) ?_
  refine gf_L_15 hF hZ (k) hk e1 rfl d_L_append_11 ?_
  refine lv_aload_n hF.1 hF.2.1 d_L_append_14 rfl (lv_at hl 0 rfl) ?_
  refine gf_L_9 hF hZ (k) hk e1 rfl d_L_append_15 ?_
  refine z_alen hF hZ (ka) hka e2 d_L_append_18 ?_
  refine lv_icmp_lt (tgt := 24) hF.1 hF.2.1 d_L_append_19 (by decide) (fun _ => ?_) (fun h => absurd (nI_lt hlen hcap) h)
  refine lv_aload_n hF.1 hF.2.1 d_L_append_24 rfl (lv_at hl 0 rfl) ?_
  refine gf_L_9 hF hZ (k) hk e1 rfl d_L_append_25 ?_
  refine lv_aload_n hF.1 hF.2.1 d_L_append_28 rfl (lv_at hl 0 rfl) ?_
  refine gf_L_15 hF hZ (k) hk e1 rfl d_L_append_29 ?_
  refine lv_iload_n hF.1 hF.2.1 d_L_append_32 rfl (lv_at hl 1 rfl) ?_
  refine z_iast hF hZ (ka) hka e2 (xs.length) (by omega) (by omega) d_L_append_33 (fun H locs hZ => ?_)
  obtain ⟨ze1, hn2⟩ : ∃ z, z = va_up en (ka) (.inl (zI G, cap, .inl (upd (f) (xs.length) (nI (x))))) := ⟨_, rfl⟩
  have hZ : zH G ad ze1 N s H locs := hZ.to hn2.symm
  have ff3 : ze1 (k) = .inr (kL, [.ref (ad (ka)), .int (nI (xs.length))]) := by rw [hn2, va_up_ne _ _ (by omega)]; exact e1
  have ff4 : ze1 (ka) = .inl (zI G, cap, .inl (upd (f) (xs.length) (nI (x)))) := by rw [hn2]; exact va_up_self _ _ _
  refine lv_aload_n hF.1 hF.2.1 d_L_append_34 rfl (lv_at hl 0 rfl) ?_
  refine lv_dup hF.1 hF.2.1 d_L_append_35 rfl ?_
  refine gf_L_15 hF hZ (k) hk ff3 rfl d_L_append_36 ?_
  refine lv_iconst (v := (nI (1))) hF.1 hF.2.1 d_L_append_39 (by decide) ?_
  refine lv_iadd hF.1 hF.2.1 d_L_append_40 ?_
  refine z_top (nI_add (xs.length) (1)) ?_
  refine pf_L_15 hF hZ (k) hk ff3 (Nat.le_of_ble_eq_true rfl) d_L_append_41 (fun H locs hZ => ?_)
  obtain ⟨ze5, hn6⟩ : ∃ z, z = va_up ze1 (k) (.inr (kL, [.ref (ad (ka)), .int (nI (xs.length + 1))])) := ⟨_, rfl⟩
  have hZ : zH G ad ze5 N s H locs := hZ.to hn6.symm
  have ff7 : ze5 (ka) = .inl (zI G, cap, .inl (upd (f) (xs.length) (nI (x)))) := by rw [hn6, va_up_ne _ _ (by omega)]; exact ff4
  have ff8 : ze5 (k) = .inr (kL, [.ref (ad (ka)), .int (nI (xs.length + 1))]) := by rw [hn6]; exact va_up_self _ _ _
  refine lv_iconst (v := (nI (1))) hF.1 hF.2.1 d_L_append_44 (by decide) ?_
  have hx2 : ∀ r, r ≠ k → r ≠ ka → ze5 r = en r := fun r q1 q2 => by subst ze5; rw [va_up_ne _ _ q1]; subst ze1; rw [va_up_ne _ _ q2]
  refine z_iret hF hr hlocks hZ (by decide) ⟨by decide, ⟨by rw [List.length_append]; exact ff8, by rw [List.length_append]; exact hlen, w26_app h26 hx, _, ff7, fun i hi => ?_⟩, hx2⟩ d_L_append_45
  by_cases q : i = xs.length
  · subst q
    rw [pk_us, getD_app_e]
  · rw [List.length_append, List.length_singleton] at hi
    rw [pk_un q, getD_app_l (by omega)]
    exact h2 i (by omega)
set_option maxHeartbeats 4000000 in
set_option maxRecDepth 100000 in
theorem c_L_appendNo (l : Launch) {G : zG} {ad : Nat → Nat} {en : Nat → va_E} {N : Nat} {k ka cap : Nat} {xs : List Nat} (hk : k < N) (hka : ka < N) (hne : k ≠ ka) (hcap : cap < 2 ^ 31) (h : pL G ad en k ka cap xs) {x : Int32} (hno : x < 0 ∨ nI 26 ≤ x ∨ cap ≤ xs.length) : zMi l y_L_append b_L_append 2 .boolean 1 G ad en N [.ref (ad (k)), .int (x)] (fun v en1 => v = 0 ∧ en1 = en) := by
  obtain ⟨e1, h1, h26, f, e2, h2⟩ := h
  refine z_met (by decide) (Nat.le_of_ble_eq_true rfl) ?_
  intro p e s m below meth c ls hF hr hlocks hnam hZ hl
  have hF : CallFix p m c b_L_append 2 s ([.ref (ad (k)), .int (x)] : List Value).toArray zz R_L := hF
  have hl : lv_has ls 2 [(0, .ref (ad (k))), (1, .int (x))] := hl
  refine lv_iload_n hF.1 hF.2.1 d_L_append_0 rfl (lv_at hl 1 rfl) ?_
  refine lv_if_lt (tgt := 22) hF.1 hF.2.1 d_L_append_1 (by decide) (fun q1 => ?_) (fun q1 => ?_)
  · refine lv_iconst (v := (nI (0))) hF.1 hF.2.1 d_L_append_22 (by decide) ?_
    exact z_iret hF hr hlocks hZ (by decide) ⟨by decide, rfl⟩ d_L_append_23
  · refine lv_iload_n hF.1 hF.2.1 d_L_append_4 rfl (lv_at hl 1 rfl) ?_
    refine lv_bipush (v := (nI (26))) hF.1 hF.2.1 d_L_append_5 (by decide) ?_
    refine lv_icmp_ge (tgt := 22) hF.1 hF.2.1 d_L_append_7 (by decide) (fun q2 => ?_) (fun q2 => ?_)
    · refine lv_iconst (v := (nI (0))) hF.1 hF.2.1 d_L_append_22 (by decide) ?_
      exact z_iret hF hr hlocks hZ (by decide) ⟨by decide, rfl⟩ d_L_append_23
    · refine lv_aload_n hF.1 hF.2.1 d_L_append_10 rfl (lv_at hl 0 rfl) ?_
      refine gf_L_15 hF hZ (k) hk e1 rfl d_L_append_11 ?_
      refine lv_aload_n hF.1 hF.2.1 d_L_append_14 rfl (lv_at hl 0 rfl) ?_
      refine gf_L_9 hF hZ (k) hk e1 rfl d_L_append_15 ?_
      refine z_alen hF hZ (ka) hka e2 d_L_append_18 ?_
      refine lv_icmp_lt (tgt := 24) hF.1 hF.2.1 d_L_append_19 (by decide) (fun q3 => ?_) (fun q3 => ?_)
      · exact absurd ((nI_ltI (by omega) (by omega)).mp q3) (by rcases hno with z | z | z; exact absurd z q1; exact absurd z q2; omega)
      · refine lv_iconst (v := (nI (0))) hF.1 hF.2.1 d_L_append_22 (by decide) ?_
        exact z_iret hF hr hlocks hZ (by decide) ⟨by decide, rfl⟩ d_L_append_23
set_option maxHeartbeats 4000000 in
set_option maxRecDepth 100000 in
theorem c_L_removeLast (l : Launch) {G : zG} {ad : Nat → Nat} {en : Nat → va_E} {N : Nat} {k ka cap : Nat} {xs : List Nat} (hk : k < N) (hka : ka < N) (hne : k ≠ ka) (hcap : cap < 2 ^ 31) (h : pL G ad en k ka cap xs) (hlen : 0 < xs.length) : zMi l y_L_removeLast b_L_removeLast 1 .boolean 1 G ad en N [.ref (ad (k))] (fun v en1 => v = 1 ∧ pL G ad en1 k ka cap (xs.take (xs.length - 1)) ∧ ∀ r, r ≠ k → en1 r = en r) := by
  obtain ⟨e1, h1, h26, f, e2, h2⟩ := h
  refine z_met (by decide) (Nat.le_of_ble_eq_true rfl) ?_
  intro p e s m below meth c ls hF hr hlocks hnam hZ hl
  have hF : CallFix p m c b_L_removeLast 1 s ([.ref (ad (k))] : List Value).toArray zz R_L := hF
  have hl : lv_has ls 1 [(0, .ref (ad (k)))] := hl
  refine lv_aload_n hF.1 hF.2.1 d_L_removeLast_0 rfl (lv_at hl 0 rfl) ?_
  refine gf_L_15 hF hZ (k) hk e1 rfl d_L_removeLast_1 ?_
  refine lv_if_ne (tgt := 9) hF.1 hF.2.1 d_L_removeLast_4 (by decide) (fun _ => ?_) (fun h => absurd h (nI_ne0 hlen (by omega)))
  refine lv_aload_n hF.1 hF.2.1 d_L_removeLast_9 rfl (lv_at hl 0 rfl) ?_
  refine lv_dup hF.1 hF.2.1 d_L_removeLast_10 rfl ?_
  refine gf_L_15 hF hZ (k) hk e1 rfl d_L_removeLast_11 ?_
  refine lv_iconst (v := (nI (1))) hF.1 hF.2.1 d_L_removeLast_14 (by decide) ?_
  refine lv_isub hF.1 hF.2.1 d_L_removeLast_15 ?_
  refine z_top (pk_sub (show 1 ≤ xs.length by omega)) ?_
  refine pf_L_15 hF hZ (k) hk e1 (Nat.le_of_ble_eq_true rfl) d_L_removeLast_16 (fun H locs hZ => ?_)
  obtain ⟨ze1, hn2⟩ : ∃ z, z = va_up en (k) (.inr (kL, [.ref (ad (ka)), .int (nI (xs.length - (1)))])) := ⟨_, rfl⟩
  have hZ : zH G ad ze1 N s H locs := hZ.to hn2.symm
  have ff3 : ze1 (ka) = .inl (zI G, cap, .inl (f)) := by rw [hn2, va_up_ne _ _ (by omega)]; exact e2
  have ff4 : ze1 (k) = .inr (kL, [.ref (ad (ka)), .int (nI (xs.length - (1)))]) := by rw [hn2]; exact va_up_self _ _ _
  refine lv_iconst (v := (nI (1))) hF.1 hF.2.1 d_L_removeLast_19 (by decide) ?_
  refine z_iret hF hr hlocks hZ (by decide) ⟨by decide, ⟨by rw [List.length_take, Nat.min_eq_left (by omega)]; exact ff4, by rw [List.length_take]; omega, w26_take _ h26, _, ff3, fun i hi => ?_⟩, fun r q => by subst ze1; rw [va_up_ne _ _ q]⟩ d_L_removeLast_20
  rw [List.length_take] at hi
  rw [getD_take (by omega)]
  exact h2 i (by omega)
set_option maxHeartbeats 4000000 in
set_option maxRecDepth 100000 in
theorem c_L_removeLastNo (l : Launch) {G : zG} {ad : Nat → Nat} {en : Nat → va_E} {N : Nat} {k ka cap : Nat} {xs : List Nat} (hk : k < N) (hka : ka < N) (hne : k ≠ ka) (hcap : cap < 2 ^ 31) (h : pL G ad en k ka cap xs) (hlen : xs.length = 0) : zMi l y_L_removeLast b_L_removeLast 1 .boolean 1 G ad en N [.ref (ad (k))] (fun v en1 => v = 0 ∧ en1 = en) := by
  obtain ⟨e1, h1, h26, f, e2, h2⟩ := h
  refine z_met (by decide) (Nat.le_of_ble_eq_true rfl) ?_
  intro p e s m below meth c ls hF hr hlocks hnam hZ hl
  have hF : CallFix p m c b_L_removeLast 1 s ([.ref (ad (k))] : List Value).toArray zz R_L := hF
  have hl : lv_has ls 1 [(0, .ref (ad (k)))] := hl
  refine lv_aload_n hF.1 hF.2.1 d_L_removeLast_0 rfl (lv_at hl 0 rfl) ?_
  refine gf_L_15 hF hZ (k) hk e1 rfl d_L_removeLast_1 ?_
  refine lv_if_ne (tgt := 9) hF.1 hF.2.1 d_L_removeLast_4 (by decide) (fun h => absurd (show nI xs.length = 0 by rw [hlen]; rfl) h) (fun _ => ?_)
  refine lv_iconst (v := (nI (0))) hF.1 hF.2.1 d_L_removeLast_7 (by decide) ?_
  exact z_iret hF hr hlocks hZ (by decide) ⟨by decide, rfl⟩ d_L_removeLast_8
set_option maxHeartbeats 4000000 in
set_option maxRecDepth 100000 in
theorem c_L_clear (l : Launch) {G : zG} {ad : Nat → Nat} {en : Nat → va_E} {N : Nat} {k ka cap : Nat} {xs : List Nat} (hk : k < N) (hka : ka < N) (hne : k ≠ ka) (hcap : cap < 2 ^ 31) (h : pL G ad en k ka cap xs) : zMv l y_L_clear b_L_clear 1 1 G ad en N [.ref (ad (k))] (fun en1 => pL G ad en1 k ka cap [] ∧ ∀ r, r ≠ k → en1 r = en r) := by
  obtain ⟨e1, h1, h26, f, e2, h2⟩ := h
  refine z_met (by decide) (Nat.le_of_ble_eq_true rfl) ?_
  intro p e s m below meth c ls hF hr hlocks hnam hZ hl
  have hF : CallFix p m c b_L_clear 1 s ([.ref (ad (k))] : List Value).toArray zz R_L := hF
  have hl : lv_has ls 1 [(0, .ref (ad (k)))] := hl
  refine lv_aload_n hF.1 hF.2.1 d_L_clear_0 rfl (lv_at hl 0 rfl) ?_
  refine lv_iconst (v := (nI (0))) hF.1 hF.2.1 d_L_clear_1 (by decide) ?_
  refine pf_L_15 hF hZ (k) hk e1 (Nat.le_of_ble_eq_true rfl) d_L_clear_2 (fun H locs hZ => ?_)
  obtain ⟨ze1, hn2⟩ : ∃ z, z = va_up en (k) (.inr (kL, [.ref (ad (ka)), .int (nI (0))])) := ⟨_, rfl⟩
  have hZ : zH G ad ze1 N s H locs := hZ.to hn2.symm
  have ff3 : ze1 (ka) = .inl (zI G, cap, .inl (f)) := by rw [hn2, va_up_ne _ _ (by omega)]; exact e2
  have ff4 : ze1 (k) = .inr (kL, [.ref (ad (ka)), .int (nI (0))]) := by rw [hn2]; exact va_up_self _ _ _
  exact z_vret hF hr hlocks hZ ⟨⟨ff4, Nat.zero_le _, w26_nil, _, ff3, fun i hi => absurd hi (Nat.not_lt_zero _)⟩, fun r q => by subst ze1; rw [va_up_ne _ _ q]⟩ d_L_clear_5
set_option maxHeartbeats 4000000 in
set_option maxRecDepth 100000 in
theorem c_L_copyFrom (l : Launch) {G : zG} {ad : Nat → Nat} {en : Nat → va_E} {N : Nat} {k ka cap : Nat} {xs : List Nat} (hk : k < N) (hka : ka < N) (hne : k ≠ ka) (hcap : cap < 2 ^ 31) (h : pL G ad en k ka cap xs) {k2 ka2 cap2 : Nat} {ys : List Nat} (hk2 : k2 < N) (hka2 : ka2 < N) (hne2 : k2 ≠ ka2) (hcap2 : cap2 < 2 ^ 31) (g : pL G ad en k2 ka2 cap2 ys) (d1 : k2 ≠ k) (d2 : k2 ≠ ka) (d3 : ka2 ≠ k) (d4 : ka2 ≠ ka) (hlen : ys.length ≤ cap) : zMv l y_L_copyFrom b_L_copyFrom 3 2 G ad en N [.ref (ad (k)), .ref (ad (k2))] (fun en1 => pL G ad en1 k ka cap ys ∧ ∀ r, r ≠ k → r ≠ ka → en1 r = en r) := by
  refine z_met (by decide) (Nat.le_of_ble_eq_true rfl) ?_
  intro p e s m below meth c ls hF hr hlocks hnam hZ hl
  have hF : CallFix p m c b_L_copyFrom 3 s ([.ref (ad (k)), .ref (ad (k2))] : List Value).toArray zz R_L := hF
  have hl : lv_has ls 3 [(0, .ref (ad (k))), (1, .ref (ad (k2)))] := hl
  have loop : ∀ (n i : Nat) (en1 : Nat → va_E) (H : Heap) (locs : List Loc) (ls : Array Slot), (i + n = ys.length) → (pL G ad en1 k ka cap (ys.take i)) → (∀ r, r ≠ k → r ≠ ka → en1 r = en r) → lv_has ls 3 [(2, .int (nI (i))), (0, .ref (ad (k))), (1, .ref (ad (k2)))] → zH G ad en1 N s H locs → W p l e (zR 2) s m ([.ref (ad (k)), .ref (ad (k2))] : List Value).toArray below meth c H locs 0 0 (MQ below (zQv G ad N (fun en1 => pL G ad en1 k ka cap ys ∧ ∀ r, r ≠ k → r ≠ ka → en1 r = en r)) ([.ref (ad (k)), .ref (ad (k2))] : List Value).toArray s 0 0 (zA G)) (F0 m 6 ls []) := by
    intro n
    induction n with
    | zero =>
      intro i en1 H locs ls hin hp hfr hl hZ
      have g2 := g.keep (hfr k2 d1 d2) (hfr ka2 d3 d4)
      obtain ⟨e3, g1, g26, f2, e4, g5⟩ := g2
      refine lv_iload_n hF.1 hF.2.1 d_L_copyFrom_6 rfl (lv_at hl 0 rfl) ?_
      refine lv_aload_n hF.1 hF.2.1 d_L_copyFrom_7 rfl (lv_at hl 2 rfl) ?_
      refine gf_L_15 hF hZ (k2) hk2 e3 rfl d_L_copyFrom_8 ?_
      refine lv_icmp_ge (tgt := 30) hF.1 hF.2.1 d_L_copyFrom_11 (by decide) (fun _ => ?_) (fun h => absurd (nI_le (by omega) (by omega)) h)
      exact z_vret hF hr hlocks hZ ⟨by rw [List.take_of_length_le (by omega)] at hp; exact hp, hfr⟩ d_L_copyFrom_30
    | succ n ih =>
      intro i en1 H locs ls hin hp hfr hl hZ
      have g2 := g.keep (hfr k2 d1 d2) (hfr ka2 d3 d4)
      have g3 := g2
      obtain ⟨e3, g1, g26, f2, e4, g5⟩ := g3
      have hp3 := hp
      obtain ⟨e1, h1, h26, f, e2, h2⟩ := hp3
      refine lv_iload_n hF.1 hF.2.1 d_L_copyFrom_6 rfl (lv_at hl 0 rfl) ?_
      refine lv_aload_n hF.1 hF.2.1 d_L_copyFrom_7 rfl (lv_at hl 2 rfl) ?_
      refine gf_L_15 hF hZ (k2) hk2 e3 rfl d_L_copyFrom_8 ?_
      refine lv_icmp_ge (tgt := 30) hF.1 hF.2.1 d_L_copyFrom_11 (by decide) (fun h => absurd h (nI_ge (show i < ys.length by omega) (by omega))) (fun _ => ?_)
      refine lv_aload_n hF.1 hF.2.1 d_L_copyFrom_14 rfl (lv_at hl 1 rfl) ?_
      refine lv_aload_n hF.1 hF.2.1 d_L_copyFrom_15 rfl (lv_at hl 2 rfl) ?_
      refine lv_iload_n hF.1 hF.2.1 d_L_copyFrom_16 rfl (lv_at hl 0 rfl) ?_
      refine z_calli hZ (z_run cw_L_22 hF hZ (k2) (c_L_atN l hk2 hka2 hne2 hcap2 g2 (j := i) (by omega)) (by decide) hk2 e3 rfl rfl hl.1 rfl (Nat.le_of_ble_eq_true rfl) d_L_copyFrom_17) (fun v enq H locs hp hZ => ?_)
      obtain ⟨he, hv⟩ := hp
      subst hv
      have hZ := hZ.to he
      refine z_top (show iv (wd_cd ys i) = nI (ys.getD i 0) by rw [wd_cd_in (by omega), iv_s]) ?_
      refine z_calli hZ (z_run cw_L_26 hF hZ (k) (c_L_append l hk hka hne hcap hp (x := ys.getD i 0) (g26 i) (by rw [List.length_take]; omega)) (by decide) hk e1 rfl rfl hl.1 rfl (Nat.le_of_ble_eq_true rfl) d_L_copyFrom_20) (fun v en2 H locs hq hZ => ?_)
      obtain ⟨-, hq1, hq2⟩ := hq
      refine lv_pop hF.1 hF.2.1 d_L_copyFrom_23 rfl ?_
      refine lv_iinc (k := 0) (v := (nI (i + 1))) hF.1 hF.2.1 d_L_copyFrom_24 hl rfl (iinc_p (i)) (by decide) rfl (fun ls hl => ?_)
      have hl : lv_has ls 3 [(2, .int (nI (i + 1))), (0, .ref (ad (k))), (1, .ref (ad (k2)))] := hl
      refine lv_goto (tgt := 6) hF.1 hF.2.1 d_L_copyFrom_27 (by decide) ?_
      refine ih (i + 1) en2 H locs ls (by omega) ?_ (fun r q1 q2 => (hq2 r q1 q2).trans (hfr r q1 q2)) hl hZ
      rw [wd_take_s (by omega)]
      exact hq1
  have hh := h
  obtain ⟨e1, h1, h26, f, e2, h2⟩ := hh
  refine lv_aload_n hF.1 hF.2.1 d_L_copyFrom_0 rfl (lv_at hl 0 rfl) ?_
  refine z_callv hZ (z_run cw_L_19 hF hZ (k) (c_L_clear l hk hka hne hcap h) (by decide) hk e1 rfl rfl hl.1 rfl (Nat.le_of_ble_eq_true rfl) d_L_copyFrom_1) (fun en1 H locs hq hZ => ?_)
  obtain ⟨hq1, hq2⟩ := hq
  refine lv_iconst (v := (nI (0))) hF.1 hF.2.1 d_L_copyFrom_4 (by decide) ?_
  refine lv_istore_n hF.1 hF.2.1 d_L_copyFrom_5 rfl hl (by decide) rfl (fun ls hl => ?_)
  have hl : lv_has ls 3 [(2, .int (nI (0))), (0, .ref (ad (k))), (1, .ref (ad (k2)))] := hl
  exact loop ys.length 0 en1 H locs ls (by omega) (by rw [List.take_zero]; exact hq1) (fun r q1 _ => hq2 r q1) hl hZ
set_option maxHeartbeats 4000000 in
set_option maxRecDepth 100000 in
theorem c_L_beginsWith (l : Launch) {G : zG} {ad : Nat → Nat} {en : Nat → va_E} {N : Nat} {k ka cap : Nat} {xs : List Nat} (hk : k < N) (hka : ka < N) (hne : k ≠ ka) (hcap : cap < 2 ^ 31) (h : pL G ad en k ka cap xs) {k2 ka2 cap2 : Nat} {ys : List Nat} (hk2 : k2 < N) (hka2 : ka2 < N) (hne2 : k2 ≠ ka2) (hcap2 : cap2 < 2 ^ 31) (g : pL G ad en k2 ka2 cap2 ys) : zMi l y_L_beginsWith b_L_beginsWith 3 .boolean 2 G ad en N [.ref (ad (k)), .ref (ad (k2))] (fun v en1 => en1 = en ∧ v = bI (wpre xs ys)) := by
  have hh := h
  obtain ⟨e1, h1, h26, f, e2, h2⟩ := hh
  have gg := g
  obtain ⟨e3, g1, g26, f2, e4, g2⟩ := gg
  refine z_met (by decide) (Nat.le_of_ble_eq_true rfl) ?_
  intro p e s m below meth c ls hF hr hlocks hnam hZ hl
  have hF : CallFix p m c b_L_beginsWith 3 s ([.ref (ad (k)), .ref (ad (k2))] : List Value).toArray zz R_L := hF
  have hl : lv_has ls 3 [(0, .ref (ad (k))), (1, .ref (ad (k2)))] := hl
  have loop : ∀ (n i : Nat) (H : Heap) (locs : List Loc) (ls : Array Slot), (i + n = ys.length) → (∀ j, j < i → wd_cd xs j = wd_cd ys j) → lv_has ls 3 [(2, .int (nI (i))), (0, .ref (ad (k))), (1, .ref (ad (k2)))] → zH G ad en N s H locs → W p l e (zR 2) s m ([.ref (ad (k)), .ref (ad (k2))] : List Value).toArray below meth c H locs 0 0 (MQ below (zQi G ad N (fun v en1 => en1 = en ∧ v = bI (wpre xs ys))) ([.ref (ad (k)), .ref (ad (k2))] : List Value).toArray s 0 0 (zA G)) (F0 m 2 ls []) := by
    intro n
    induction n with
    | zero =>
      intro i H locs ls hin hp hl hZ
      refine lv_iload_n hF.1 hF.2.1 d_L_beginsWith_2 rfl (lv_at hl 0 rfl) ?_
      refine lv_aload_n hF.1 hF.2.1 d_L_beginsWith_3 rfl (lv_at hl 2 rfl) ?_
      refine gf_L_15 hF hZ (k2) hk2 e3 rfl d_L_beginsWith_4 ?_
      refine lv_icmp_ge (tgt := 31) hF.1 hF.2.1 d_L_beginsWith_7 (by decide) (fun _ => ?_) (fun h => absurd (nI_le (by omega) (by omega)) h)
      refine lv_iconst (v := (nI (1))) hF.1 hF.2.1 d_L_beginsWith_31 (by decide) ?_
      exact z_iret hF hr hlocks hZ (by decide) ⟨rfl, by rw [wpre_t (fun j hj => hp j (by omega))]; rfl⟩ d_L_beginsWith_32
    | succ n ih =>
      intro i H locs ls hin hp hl hZ
      refine lv_iload_n hF.1 hF.2.1 d_L_beginsWith_2 rfl (lv_at hl 0 rfl) ?_
      refine lv_aload_n hF.1 hF.2.1 d_L_beginsWith_3 rfl (lv_at hl 2 rfl) ?_
      refine gf_L_15 hF hZ (k2) hk2 e3 rfl d_L_beginsWith_4 ?_
      refine lv_icmp_ge (tgt := 31) hF.1 hF.2.1 d_L_beginsWith_7 (by decide) (fun h => absurd h (nI_ge (show i < ys.length by omega) (by omega))) (fun _ => ?_)
      refine lv_aload_n hF.1 hF.2.1 d_L_beginsWith_10 rfl (lv_at hl 1 rfl) ?_
      refine lv_iload_n hF.1 hF.2.1 d_L_beginsWith_11 rfl (lv_at hl 0 rfl) ?_
      refine z_calli hZ (z_run cw_L_22 hF hZ (k) (c_L_atN l hk hka hne hcap h (j := i) (by omega)) (by decide) hk e1 rfl rfl hl.1 rfl (Nat.le_of_ble_eq_true rfl) d_L_beginsWith_12) (fun v enq H locs hp hZ => ?_)
      obtain ⟨he, hv⟩ := hp
      subst hv
      have hZ := hZ.to he
      refine lv_aload_n hF.1 hF.2.1 d_L_beginsWith_15 rfl (lv_at hl 2 rfl) ?_
      refine lv_iload_n hF.1 hF.2.1 d_L_beginsWith_16 rfl (lv_at hl 0 rfl) ?_
      refine z_calli hZ (z_run cw_L_22 hF hZ (k2) (c_L_atN l hk2 hka2 hne2 hcap2 g (j := i) (by omega)) (by decide) hk2 e3 rfl rfl hl.1 rfl (Nat.le_of_ble_eq_true rfl) d_L_beginsWith_17) (fun v enq H locs hp hZ => ?_)
      obtain ⟨he, hv⟩ := hp
      subst hv
      have hZ := hZ.to he
      refine lv_icmp_eq (tgt := 25) hF.1 hF.2.1 d_L_beginsWith_20 (by decide) (fun q => ?_) (fun q => ?_)
      · have q := (iv_eq (wd_cd_26 h26 i) (wd_cd_26 g26 i)).mp q
        refine lv_iinc (k := 0) (v := (nI (i + 1))) hF.1 hF.2.1 d_L_beginsWith_25 hl rfl (iinc_p (i)) (by decide) rfl (fun ls hl => ?_)
        have hl : lv_has ls 3 [(2, .int (nI (i + 1))), (0, .ref (ad (k))), (1, .ref (ad (k2)))] := hl
        refine lv_goto (tgt := 2) hF.1 hF.2.1 d_L_beginsWith_28 (by decide) ?_
        refine ih (i + 1) H locs ls (by omega) (fun j hj => ?_) hl hZ
        by_cases z : j = i
        · rw [z]; exact q
        · exact hp j (by omega)
      · have q : ¬ wd_cd xs i = wd_cd ys i := fun z => q (by rw [z])
        refine lv_iconst (v := (nI (0))) hF.1 hF.2.1 d_L_beginsWith_23 (by decide) ?_
        exact z_iret hF hr hlocks hZ (by decide) ⟨rfl, by rw [wpre_f (i := i) (by omega) q]; rfl⟩ d_L_beginsWith_24
  refine lv_iconst (v := (nI (0))) hF.1 hF.2.1 d_L_beginsWith_0 (by decide) ?_
  refine lv_istore_n hF.1 hF.2.1 d_L_beginsWith_1 rfl hl (by decide) rfl (fun ls hl => ?_)
  have hl : lv_has ls 3 [(2, .int (nI (0))), (0, .ref (ad (k))), (1, .ref (ad (k2)))] := hl
  exact loop ys.length 0 _ _ ls (by omega) (fun j hj => absurd hj (Nat.not_lt_zero _)) hl hZ
set_option maxHeartbeats 4000000 in
set_option maxRecDepth 100000 in
theorem c_L_isSameAs (l : Launch) {G : zG} {ad : Nat → Nat} {en : Nat → va_E} {N : Nat} {k ka cap : Nat} {xs : List Nat} (hk : k < N) (hka : ka < N) (hne : k ≠ ka) (hcap : cap < 2 ^ 31) (h : pL G ad en k ka cap xs) {k2 ka2 cap2 : Nat} {ys : List Nat} (hk2 : k2 < N) (hka2 : ka2 < N) (hne2 : k2 ≠ ka2) (hcap2 : cap2 < 2 ^ 31) (g : pL G ad en k2 ka2 cap2 ys) : zMi l y_L_isSameAs b_L_isSameAs 2 .boolean 3 G ad en N [.ref (ad (k)), .ref (ad (k2))] (fun v en1 => en1 = en ∧ v = bI (decide (xs = ys))) := by
  have hh := h
  obtain ⟨e1, h1, h26, f, e2, h2⟩ := hh
  have gg := g
  obtain ⟨e3, g1, g26, f2, e4, g2⟩ := gg
  refine z_met (by decide) (Nat.le_of_ble_eq_true rfl) ?_
  intro p e s m below meth c ls hF hr hlocks hnam hZ hl
  have hF : CallFix p m c b_L_isSameAs 2 s ([.ref (ad (k)), .ref (ad (k2))] : List Value).toArray zz R_L := hF
  have hl : lv_has ls 2 [(0, .ref (ad (k))), (1, .ref (ad (k2)))] := hl
  refine lv_aload_n hF.1 hF.2.1 d_L_isSameAs_0 rfl (lv_at hl 0 rfl) ?_
  refine gf_L_15 hF hZ (k) hk e1 rfl d_L_isSameAs_1 ?_
  refine lv_aload_n hF.1 hF.2.1 d_L_isSameAs_4 rfl (lv_at hl 1 rfl) ?_
  refine gf_L_15 hF hZ (k2) hk2 e3 rfl d_L_isSameAs_5 ?_
  refine lv_icmp_ne (tgt := 23) hF.1 hF.2.1 d_L_isSameAs_8 (by decide) (fun q => ?_) (fun q => ?_)
  · have q : ¬ xs.length = ys.length := fun z => q (by rw [z])
    refine lv_iconst (v := (nI (0))) hF.1 hF.2.1 d_L_isSameAs_23 (by decide) ?_
    exact z_iret hF hr hlocks hZ (by decide) ⟨rfl, by rw [decide_eq_false (fun z => q (by rw [z]))]; rfl⟩ d_L_isSameAs_24
  · have q := (nI_eq (by omega) (by omega)).mp q
    refine lv_aload_n hF.1 hF.2.1 d_L_isSameAs_11 rfl (lv_at hl 0 rfl) ?_
    refine lv_aload_n hF.1 hF.2.1 d_L_isSameAs_12 rfl (lv_at hl 1 rfl) ?_
    refine z_calli hZ (z_run cw_L_30 hF hZ (k) (c_L_beginsWith l hk hka hne hcap h hk2 hka2 hne2 hcap2 g) (by decide) hk e1 rfl rfl hl.1 rfl (Nat.le_of_ble_eq_true rfl) d_L_isSameAs_13) (fun v enq H locs hp hZ => ?_)
    obtain ⟨he, hv⟩ := hp
    subst hv
    have hZ := hZ.to he
    refine lv_if_eq (tgt := 23) hF.1 hF.2.1 d_L_isSameAs_16 (by decide) (fun z => ?_) (fun z => ?_)
    · have z := bI_0.mp z
      refine lv_iconst (v := (nI (0))) hF.1 hF.2.1 d_L_isSameAs_23 (by decide) ?_
      exact z_iret hF hr hlocks hZ (by decide) ⟨rfl, by rw [decide_eq_false (fun y => by rw [(wsame_iff q).mpr y] at z; cases z)]; rfl⟩ d_L_isSameAs_24
    · have z : wpre xs ys = true := by cases y : wpre xs ys with
        | false => exact absurd (bI_0.mpr y) z
        | true => rfl
      refine lv_iconst (v := (nI (1))) hF.1 hF.2.1 d_L_isSameAs_19 (by decide) ?_
      refine lv_goto (tgt := 24) hF.1 hF.2.1 d_L_isSameAs_20 (by decide) ?_
      exact z_iret hF hr hlocks hZ (by decide) ⟨rfl, by rw [decide_eq_true ((wsame_iff q).mp z)]; rfl⟩ d_L_isSameAs_24
set_option maxHeartbeats 4000000 in
set_option maxRecDepth 100000 in
theorem c_L_isBefore (l : Launch) {G : zG} {ad : Nat → Nat} {en : Nat → va_E} {N : Nat} {k ka cap : Nat} {xs : List Nat} (hk : k < N) (hka : ka < N) (hne : k ≠ ka) (hcap : cap < 2 ^ 31) (h : pL G ad en k ka cap xs) {k2 ka2 cap2 : Nat} {ys : List Nat} (hk2 : k2 < N) (hka2 : ka2 < N) (hne2 : k2 ≠ ka2) (hcap2 : cap2 < 2 ^ 31) (g : pL G ad en k2 ka2 cap2 ys) : zMi l y_L_isBefore b_L_isBefore 3 .boolean 2 G ad en N [.ref (ad (k)), .ref (ad (k2))] (fun v en1 => en1 = en ∧ v = bI (wd_lt xs ys)) := by
  have hh := h
  obtain ⟨e1, h1, h26, f, e2, h2⟩ := hh
  have gg := g
  obtain ⟨e3, g1, g26, f2, e4, g2⟩ := gg
  refine z_met (by decide) (Nat.le_of_ble_eq_true rfl) ?_
  intro p e s m below meth c ls hF hr hlocks hnam hZ hl
  have hF : CallFix p m c b_L_isBefore 3 s ([.ref (ad (k)), .ref (ad (k2))] : List Value).toArray zz R_L := hF
  have hl : lv_has ls 3 [(0, .ref (ad (k))), (1, .ref (ad (k2)))] := hl
  have loop : ∀ (n i : Nat) (H : Heap) (locs : List Loc) (ls : Array Slot), (i + n = ys.length) → (wd_lt xs ys = wd_lt (xs.drop i) (ys.drop i)) → lv_has ls 3 [(2, .int (nI (i))), (0, .ref (ad (k))), (1, .ref (ad (k2)))] → zH G ad en N s H locs → W p l e (zR 2) s m ([.ref (ad (k)), .ref (ad (k2))] : List Value).toArray below meth c H locs 0 0 (MQ below (zQi G ad N (fun v en1 => en1 = en ∧ v = bI (wd_lt xs ys))) ([.ref (ad (k)), .ref (ad (k2))] : List Value).toArray s 0 0 (zA G)) (F0 m 2 ls []) := by
    intro n
    induction n with
    | zero =>
      intro i H locs ls hin hp hl hZ
      refine lv_iload_n hF.1 hF.2.1 d_L_isBefore_2 rfl (lv_at hl 0 rfl) ?_
      refine lv_aload_n hF.1 hF.2.1 d_L_isBefore_3 rfl (lv_at hl 2 rfl) ?_
      refine gf_L_15 hF hZ (k2) hk2 e3 rfl d_L_isBefore_4 ?_
      refine lv_icmp_ge (tgt := 48) hF.1 hF.2.1 d_L_isBefore_7 (by decide) (fun _ => ?_) (fun h => absurd (nI_le (by omega) (by omega)) h)
      refine lv_iconst (v := (nI (0))) hF.1 hF.2.1 d_L_isBefore_48 (by decide) ?_
      exact z_iret hF hr hlocks hZ (by decide) ⟨rfl, by rw [hp, List.drop_eq_nil_of_le (show ys.length ≤ i by omega), wd_lt_nilR]; rfl⟩ d_L_isBefore_49
    | succ n ih =>
      intro i H locs ls hin hp hl hZ
      rw [wd_lt_s] at hp
      refine lv_iload_n hF.1 hF.2.1 d_L_isBefore_2 rfl (lv_at hl 0 rfl) ?_
      refine lv_aload_n hF.1 hF.2.1 d_L_isBefore_3 rfl (lv_at hl 2 rfl) ?_
      refine gf_L_15 hF hZ (k2) hk2 e3 rfl d_L_isBefore_4 ?_
      refine lv_icmp_ge (tgt := 48) hF.1 hF.2.1 d_L_isBefore_7 (by decide) (fun h => absurd h (nI_ge (show i < ys.length by omega) (by omega))) (fun _ => ?_)
      refine lv_aload_n hF.1 hF.2.1 d_L_isBefore_10 rfl (lv_at hl 1 rfl) ?_
      refine lv_iload_n hF.1 hF.2.1 d_L_isBefore_11 rfl (lv_at hl 0 rfl) ?_
      refine z_calli hZ (z_run cw_L_22 hF hZ (k) (c_L_atN l hk hka hne hcap h (j := i) (by omega)) (by decide) hk e1 rfl rfl hl.1 rfl (Nat.le_of_ble_eq_true rfl) d_L_isBefore_12) (fun v enq H locs hp hZ => ?_)
      obtain ⟨he, hv⟩ := hp
      subst hv
      have hZ := hZ.to he
      refine lv_aload_n hF.1 hF.2.1 d_L_isBefore_15 rfl (lv_at hl 2 rfl) ?_
      refine lv_iload_n hF.1 hF.2.1 d_L_isBefore_16 rfl (lv_at hl 0 rfl) ?_
      refine z_calli hZ (z_run cw_L_22 hF hZ (k2) (c_L_atN l hk2 hka2 hne2 hcap2 g (j := i) (by omega)) (by decide) hk2 e3 rfl rfl hl.1 rfl (Nat.le_of_ble_eq_true rfl) d_L_isBefore_17) (fun v enq H locs hp hZ => ?_)
      obtain ⟨he, hv⟩ := hp
      subst hv
      have hZ := hZ.to he
      refine lv_icmp_eq (tgt := 42) hF.1 hF.2.1 d_L_isBefore_20 (by decide) (fun q => ?_) (fun q => ?_)
      · have q := (iv_eq (wd_cd_26 h26 i) (wd_cd_26 g26 i)).mp q
        rw [if_pos q] at hp
        refine lv_iinc (k := 0) (v := (nI (i + 1))) hF.1 hF.2.1 d_L_isBefore_42 hl rfl (iinc_p (i)) (by decide) rfl (fun ls hl => ?_)
        have hl : lv_has ls 3 [(2, .int (nI (i + 1))), (0, .ref (ad (k))), (1, .ref (ad (k2)))] := hl
        refine lv_goto (tgt := 2) hF.1 hF.2.1 d_L_isBefore_45 (by decide) ?_
        exact ih (i + 1) H locs ls (by omega) hp hl hZ
      · have q : ¬ wd_cd xs i = wd_cd ys i := fun z => q (by rw [z])
        rw [if_neg q] at hp
        refine lv_aload_n hF.1 hF.2.1 d_L_isBefore_23 rfl (lv_at hl 1 rfl) ?_
        refine lv_iload_n hF.1 hF.2.1 d_L_isBefore_24 rfl (lv_at hl 0 rfl) ?_
        refine z_calli hZ (z_run cw_L_22 hF hZ (k) (c_L_atN l hk hka hne hcap h (j := i) (by omega)) (by decide) hk e1 rfl rfl hl.1 rfl (Nat.le_of_ble_eq_true rfl) d_L_isBefore_25) (fun v enq H locs hp hZ => ?_)
        obtain ⟨he, hv⟩ := hp
        subst hv
        have hZ := hZ.to he
        refine lv_aload_n hF.1 hF.2.1 d_L_isBefore_28 rfl (lv_at hl 2 rfl) ?_
        refine lv_iload_n hF.1 hF.2.1 d_L_isBefore_29 rfl (lv_at hl 0 rfl) ?_
        refine z_calli hZ (z_run cw_L_22 hF hZ (k2) (c_L_atN l hk2 hka2 hne2 hcap2 g (j := i) (by omega)) (by decide) hk2 e3 rfl rfl hl.1 rfl (Nat.le_of_ble_eq_true rfl) d_L_isBefore_30) (fun v enq H locs hp hZ => ?_)
        obtain ⟨he, hv⟩ := hp
        subst hv
        have hZ := hZ.to he
        refine lv_icmp_ge (tgt := 40) hF.1 hF.2.1 d_L_isBefore_33 (by decide) (fun z => ?_) (fun z => ?_)
        · have z : ¬ wd_cd xs i < wd_cd ys i := fun y => by
            have y := (iv_lt (wd_cd_26 h26 i) (wd_cd_26 g26 i)).mpr y
            rw [Int32.lt_iff_toInt_lt] at y; rw [Int32.le_iff_toInt_le] at z; omega
          refine lv_iconst (v := (nI (0))) hF.1 hF.2.1 d_L_isBefore_40 (by decide) ?_
          exact z_iret hF hr hlocks hZ (by decide) ⟨rfl, by rw [hp, decide_eq_false z]; rfl⟩ d_L_isBefore_41
        · have z : wd_cd xs i < wd_cd ys i := (iv_lt (wd_cd_26 h26 i) (wd_cd_26 g26 i)).mp (by
            rw [Int32.lt_iff_toInt_lt]; rw [Int32.le_iff_toInt_le] at z; omega)
          refine lv_iconst (v := (nI (1))) hF.1 hF.2.1 d_L_isBefore_36 (by decide) ?_
          refine lv_goto (tgt := 41) hF.1 hF.2.1 d_L_isBefore_37 (by decide) ?_
          exact z_iret hF hr hlocks hZ (by decide) ⟨rfl, by rw [hp, decide_eq_true z]; rfl⟩ d_L_isBefore_41
  refine lv_iconst (v := (nI (0))) hF.1 hF.2.1 d_L_isBefore_0 (by decide) ?_
  refine lv_istore_n hF.1 hF.2.1 d_L_isBefore_1 rfl hl (by decide) rfl (fun ls hl => ?_)
  have hl : lv_has ls 3 [(2, .int (nI (0))), (0, .ref (ad (k))), (1, .ref (ad (k2)))] := hl
  exact loop ys.length 0 _ _ ls (by omega) (by rw [List.drop_zero, List.drop_zero]) hl hZ
end
section
/-! the dictionary's picture under its changes -/
theorem pD.word {G : zG} {ad : Nat → Nat} {en : Nat → va_E} {sg : Nat → Nat} {C : List wd_W} (h : pD G ad en sg C) {k : Nat} {w : wd_W} (hk : C[k]? = some w) : en (5 + 3 * sg k) = .inr (kW, [.ref (ad (6 + 3 * sg k)), .int (nI w.2)]) ∧ pL G ad en (6 + 3 * sg k) (7 + 3 * sg k) 8 w.1 ∧ w.2 ≤ 1000000 := h.2.2.2.2.2.2 k w hk
theorem pD.lt {G : zG} {ad : Nat → Nat} {en : Nat → va_E} {sg : Nat → Nat} {C : List wd_W} (h : pD G ad en sg C) {k : Nat} (hk : k < 24) : sg k < 24 := h.2.2.2.1 k hk
theorem wd_some {α : Type} {l : List α} {k : Nat} (h : k < l.length) : ∃ x, l[k]? = some x := ⟨l[k], List.getElem?_eq_getElem h⟩
/-- a word learned more often -/
theorem pD.times {G : zG} {ad : Nat → Nat} {en : Nat → va_E} {sg : Nat → Nat} {C : List wd_W} (h : pD G ad en sg C) {j t : Nat} {w : wd_W} (hj : C[j]? = some w) (ht : t ≤ 1000000) : pD G ad (va_up en (5 + 3 * sg j) (.inr (kW, [.ref (ad (6 + 3 * sg j)), .int (nI t)]))) sg (C.set j (w.1, t)) := by
  have hjl := wd_lt_of hj
  obtain ⟨h1, h2, ⟨g, h3, h3'⟩, h4, h5, h6, h7⟩ := h
  have hs := h4 j (by omega)
  refine ⟨by rw [va_up_ne _ _ (by omega), List.length_set]; exact h1, by rw [List.length_set]; exact h2, ⟨g, by rw [va_up_ne _ _ (by omega)]; exact h3, h3'⟩, h4, h5, fun i hi => ?_, fun k v hk => ?_⟩
  · obtain ⟨⟨t0, a⟩, xs, b⟩ := h6 i hi
    refine ⟨?_, xs, b.keep (va_up_ne _ _ (by omega)) (va_up_ne _ _ (by omega))⟩
    by_cases e : i = sg j
    · subst e; exact ⟨nI t, va_up_self _ _ _⟩
    · exact ⟨t0, by rw [va_up_ne _ _ (by omega)]; exact a⟩
  · have hkl : k < C.length := by have := wd_lt_of hk; rw [List.length_set] at this; exact this
    have hs2 := h4 k (by omega)
    by_cases e : k = j
    · subst e
      rw [List.getElem?_set_self hjl] at hk
      cases hk
      obtain ⟨a, b, d⟩ := h7 k w hj
      exact ⟨va_up_self _ _ _, b.keep (va_up_ne _ _ (by omega)) (va_up_ne _ _ (by omega)), ht⟩
    · rw [List.getElem?_set_ne (Ne.symm e)] at hk
      obtain ⟨a, b, d⟩ := h7 k v hk
      have hne : sg k ≠ sg j := fun q => e (h5 k j (by omega) (by omega) q)
      exact ⟨by rw [va_up_ne _ _ (by omega)]; exact a, b.keep (va_up_ne _ _ (by omega)) (va_up_ne _ _ (by omega)), d⟩
/-- a spare word is written -/
theorem pD.spare {G : zG} {ad : Nat → Nat} {en en1 : Nat → va_E} {sg : Nat → Nat} {C : List wd_W} (h : pD G ad en sg C) (hl : C.length < 24) {ys : List Nat} {t : Int32} (hfr : ∀ r, r ≠ 5 + 3 * sg C.length → r ≠ 6 + 3 * sg C.length → r ≠ 7 + 3 * sg C.length → en1 r = en r) (hw : en1 (5 + 3 * sg C.length) = .inr (kW, [.ref (ad (6 + 3 * sg C.length)), .int t])) (hL : pL G ad en1 (6 + 3 * sg C.length) (7 + 3 * sg C.length) 8 ys) : pD G ad en1 sg C := by
  obtain ⟨h1, h2, ⟨g, h3, h3'⟩, h4, h5, h6, h7⟩ := h
  have hs := h4 C.length hl
  refine ⟨by rw [hfr _ (by omega) (by omega) (by omega)]; exact h1, h2, ⟨g, by rw [hfr _ (by omega) (by omega) (by omega)]; exact h3, h3'⟩, h4, h5, fun i hi => ?_, fun k v hk => ?_⟩
  · by_cases e : i = sg C.length
    · subst e; exact ⟨⟨t, hw⟩, ys, hL⟩
    · obtain ⟨⟨t0, a⟩, xs, b⟩ := h6 i hi
      exact ⟨⟨t0, by rw [hfr _ (by omega) (by omega) (by omega)]; exact a⟩, xs, b.keep (hfr _ (by omega) (by omega) (by omega)) (hfr _ (by omega) (by omega) (by omega))⟩
  · have hkl := wd_lt_of hk
    have hne : sg k ≠ sg C.length := fun q => by have := h5 k C.length (by omega) hl q; omega
    obtain ⟨a, b, d⟩ := h7 k v hk
    exact ⟨by rw [hfr _ (by omega) (by omega) (by omega)]; exact a, b.keep (hfr _ (by omega) (by omega) (by omega)) (hfr _ (by omega) (by omega) (by omega)), d⟩
/-- the row's places behind the shift, and behind the insertion -/
def px_s (n q k : Nat) : Nat := if q < k ∧ k ≤ n then k - 1 else k
def px_i (n p k : Nat) : Nat := if k < p then k else if k = p then n else if k ≤ n then k - 1 else k
def px_r (n p k : Nat) : Nat := if k < p then k else if k + 1 < n then k + 1 else if k + 1 = n then p else k
theorem wd_ins_at {l : List wd_W} {x : wd_W} {p : Nat} (hp : p ≤ l.length) (k : Nat) : (l.take p ++ x :: l.drop p)[k]? = if k < p then l[k]? else if k = p then some x else l[k - 1]? := by
  have hl : (l.take p).length = p := by rw [List.length_take]; omega
  by_cases a : k < p
  · rw [if_pos a, List.getElem?_append_left (by omega), List.getElem?_take, if_pos a]
  · rw [if_neg a, List.getElem?_append_right (by omega), hl]
    by_cases b : k = p
    · rw [if_pos b, b, Nat.sub_self]; rfl
    · rw [if_neg b, show k - p = (k - p - 1) + 1 by omega, List.getElem?_cons_succ, List.getElem?_drop]
      congr 1; omega
theorem pD.ins {G : zG} {ad : Nat → Nat} {en en1 : Nat → va_E} {sg : Nat → Nat} {C : List wd_W} (h : pD G ad en sg C) (hl : C.length < 24) {ys : List Nat} {t p : Nat} (hp : p ≤ C.length) (ht : t ≤ 1000000) (hw : en (5 + 3 * sg C.length) = .inr (kW, [.ref (ad (6 + 3 * sg C.length)), .int (nI t)])) (hL : pL G ad en (6 + 3 * sg C.length) (7 + 3 * sg C.length) 8 ys)
    (hfr : ∀ r, r ≠ 3 → r ≠ 4 → en1 r = en r) (h3n : en1 3 = .inr (kD, [.ref (ad 4), .int (nI (C.length + 1))])) {g : Nat → Option Nat} (h4n : en1 4 = .inl (zO G, 24, z_refs g)) (hg : ∀ k, k < 24 → g k = some (ad (5 + 3 * sg (px_i C.length p k)))) : pD G ad en1 (fun k => sg (px_i C.length p k)) (C.take p ++ (ys, t) :: C.drop p) := by
  obtain ⟨h1, h2, ⟨g0, h3, h3'⟩, h4, h5, h6, h7⟩ := h
  have hlen : (C.take p ++ (ys, t) :: C.drop p).length = C.length + 1 := by
    rw [List.length_append, List.length_cons, List.length_take, List.length_drop]; omega
  have hpl : ∀ k, k < 24 → px_i C.length p k < 24 := fun k hk => by unfold px_i; split; · omega
                                                                    split; · omega
                                                                    split <;> omega
  have hpi : ∀ i j, i < 24 → j < 24 → px_i C.length p i = px_i C.length p j → i = j := fun i j hi hj e => by
    unfold px_i at e
    repeat' split at e
    all_goals omega
  refine ⟨by rw [hlen]; exact h3n, by omega, ⟨g, h4n, hg⟩, fun k hk => h4 _ (hpl k hk), fun i j hi hj e => hpi i j hi hj (h5 _ _ (hpl i hi) (hpl j hj) e), fun i hi => ?_, fun k v hk => ?_⟩
  · obtain ⟨⟨t0, a⟩, xs, b⟩ := h6 i hi
    exact ⟨⟨t0, by rw [hfr _ (by omega) (by omega)]; exact a⟩, xs, b.keep (hfr _ (by omega) (by omega)) (hfr _ (by omega) (by omega))⟩
  · have hkl := wd_lt_of hk
    rw [hlen] at hkl
    rw [wd_ins_at hp] at hk
    have key : ∀ q, en (5 + 3 * sg q) = .inr (kW, [.ref (ad (6 + 3 * sg q)), .int (nI v.2)]) ∧ pL G ad en (6 + 3 * sg q) (7 + 3 * sg q) 8 v.1 ∧ v.2 ≤ 1000000 → en1 (5 + 3 * sg q) = .inr (kW, [.ref (ad (6 + 3 * sg q)), .int (nI v.2)]) ∧ pL G ad en1 (6 + 3 * sg q) (7 + 3 * sg q) 8 v.1 ∧ v.2 ≤ 1000000 := fun q z => ⟨by rw [hfr _ (by omega) (by omega)]; exact z.1, z.2.1.keep (hfr _ (by omega) (by omega)) (hfr _ (by omega) (by omega)), z.2.2⟩
    apply key
    unfold px_i
    by_cases a : k < p
    · rw [if_pos a] at hk ⊢; exact h7 k v hk
    · rw [if_neg a] at hk ⊢
      by_cases b : k = p
      · rw [if_pos b] at hk ⊢
        cases hk
        exact ⟨hw, hL, ht⟩
      · rw [if_neg b] at hk ⊢
        rw [if_pos (by omega)]
        exact h7 _ v hk
theorem pD.rem {G : zG} {ad : Nat → Nat} {en en1 : Nat → va_E} {sg : Nat → Nat} {C : List wd_W} (h : pD G ad en sg C) {p : Nat} (hp : p < C.length)
    (hfr : ∀ r, r ≠ 3 → r ≠ 4 → en1 r = en r) (h3n : en1 3 = .inr (kD, [.ref (ad 4), .int (nI (C.length - 1))])) {g : Nat → Option Nat} (h4n : en1 4 = .inl (zO G, 24, z_refs g)) (hg : ∀ k, k < 24 → g k = some (ad (5 + 3 * sg (px_r C.length p k)))) : pD G ad en1 (fun k => sg (px_r C.length p k)) (C.eraseIdx p) := by
  obtain ⟨h1, h2, ⟨g0, h3, h3'⟩, h4, h5, h6, h7⟩ := h
  have hlen : (C.eraseIdx p).length = C.length - 1 := List.length_eraseIdx_of_lt hp
  have hpl : ∀ k, k < 24 → px_r C.length p k < 24 := fun k hk => by unfold px_r; split; · omega
                                                                    split; · omega
                                                                    split <;> omega
  have hpi : ∀ i j, i < 24 → j < 24 → px_r C.length p i = px_r C.length p j → i = j := fun i j hi hj e => by
    unfold px_r at e
    repeat' split at e
    all_goals omega
  refine ⟨by rw [hlen]; exact h3n, by omega, ⟨g, h4n, hg⟩, fun k hk => h4 _ (hpl k hk), fun i j hi hj e => hpi i j hi hj (h5 _ _ (hpl i hi) (hpl j hj) e), fun i hi => ?_, fun k v hk => ?_⟩
  · obtain ⟨⟨t0, a⟩, xs, b⟩ := h6 i hi
    exact ⟨⟨t0, by rw [hfr _ (by omega) (by omega)]; exact a⟩, xs, b.keep (hfr _ (by omega) (by omega)) (hfr _ (by omega) (by omega))⟩
  · have hkl := wd_lt_of hk
    rw [hlen] at hkl
    rw [List.getElem?_eraseIdx] at hk
    have key : ∀ q, C[q]? = some v → en1 (5 + 3 * sg q) = .inr (kW, [.ref (ad (6 + 3 * sg q)), .int (nI v.2)]) ∧ pL G ad en1 (6 + 3 * sg q) (7 + 3 * sg q) 8 v.1 ∧ v.2 ≤ 1000000 := fun q z => by
      have z := h7 q v z
      exact ⟨by rw [hfr _ (by omega) (by omega)]; exact z.1, z.2.1.keep (hfr _ (by omega) (by omega)) (hfr _ (by omega) (by omega)), z.2.2⟩
    apply key
    unfold px_r
    by_cases a : k < p
    · rw [if_pos a] at hk ⊢; exact hk
    · rw [if_neg a] at hk ⊢
      rw [if_pos (by omega)]; exact hk
end
section
theorem wd_cnt_s {α : Type} {l : List α} {i : Nat} {w : α} (p : α → Bool) (h : l[i]? = some w) : (l.take (i + 1)).countP p = (l.take i).countP p + if p w then 1 else 0 := by
  rw [List.take_succ, h, List.countP_append]
  show _ + List.countP p [w] = _
  rw [List.countP_singleton]
set_option maxHeartbeats 4000000 in
set_option maxRecDepth 100000 in
theorem c_D_has (l : Launch) {G : zG} {ad : Nat → Nat} {en : Nat → va_E} {N : Nat} {sg : Nat → Nat} {C : List wd_W} (hN : 77 ≤ N) (h : pD G ad en sg C) {j : Nat} (hj : j < C.length) : zMi l y_D_has b_D_has 2 .boolean 1 G ad en N [.ref (ad (3)), .int (nI (j))] (fun v en1 => en1 = en ∧ v = 1) := by
  have hh := h
  obtain ⟨d1, d2, ⟨g0, d3, d3g⟩, d4, d5, d6, d7⟩ := hh
  refine z_met (by decide) (Nat.le_of_ble_eq_true rfl) ?_
  intro p e s m below meth c ls hF hr hlocks hnam hZ hl
  have hF : CallFix p m c b_D_has 2 s ([.ref (ad (3)), .int (nI (j))] : List Value).toArray zz R_D := hF
  have hl : lv_has ls 2 [(0, .ref (ad (3))), (1, .int (nI (j)))] := hl
  refine lv_iload_n hF.1 hF.2.1 d_D_has_0 rfl (lv_at hl 1 rfl) ?_
  refine lv_if_lt (tgt := 16) hF.1 hF.2.1 d_D_has_1 (by decide) (fun h => absurd h (nI_pos (by omega))) (fun _ => ?_)
  refine lv_iload_n hF.1 hF.2.1 d_D_has_4 rfl (lv_at hl 1 rfl) ?_
  refine lv_aload_n hF.1 hF.2.1 d_D_has_5 rfl (lv_at hl 0 rfl) ?_
  refine gf_D_18 hF hZ (3) (by omega) d1 rfl d_D_has_6 ?_
  refine lv_icmp_ge (tgt := 16) hF.1 hF.2.1 d_D_has_9 (by decide) (fun h => absurd h (nI_ge hj (by omega))) (fun _ => ?_)
  refine lv_iconst (v := (nI (1))) hF.1 hF.2.1 d_D_has_12 (by decide) ?_
  refine lv_goto (tgt := 17) hF.1 hF.2.1 d_D_has_13 (by decide) ?_
  exact z_iret hF hr hlocks hZ (by decide) ⟨rfl, by decide⟩ d_D_has_17
set_option maxHeartbeats 4000000 in
set_option maxRecDepth 100000 in
theorem c_D_hasNo (l : Launch) {G : zG} {ad : Nat → Nat} {en : Nat → va_E} {N : Nat} {sg : Nat → Nat} {C : List wd_W} (hN : 77 ≤ N) (h : pD G ad en sg C) {k : Int32} (hno : k < 0 ∨ nI C.length ≤ k) : zMi l y_D_has b_D_has 2 .boolean 1 G ad en N [.ref (ad (3)), .int (k)] (fun v en1 => en1 = en ∧ v = 0) := by
  have hh := h
  obtain ⟨d1, d2, ⟨g0, d3, d3g⟩, d4, d5, d6, d7⟩ := hh
  refine z_met (by decide) (Nat.le_of_ble_eq_true rfl) ?_
  intro p e s m below meth c ls hF hr hlocks hnam hZ hl
  have hF : CallFix p m c b_D_has 2 s ([.ref (ad (3)), .int (k)] : List Value).toArray zz R_D := hF
  have hl : lv_has ls 2 [(0, .ref (ad (3))), (1, .int (k))] := hl
  refine lv_iload_n hF.1 hF.2.1 d_D_has_0 rfl (lv_at hl 1 rfl) ?_
  refine lv_if_lt (tgt := 16) hF.1 hF.2.1 d_D_has_1 (by decide) (fun q1 => ?_) (fun q1 => ?_)
  · refine lv_iconst (v := (nI (0))) hF.1 hF.2.1 d_D_has_16 (by decide) ?_
    exact z_iret hF hr hlocks hZ (by decide) ⟨rfl, by decide⟩ d_D_has_17
  · refine lv_iload_n hF.1 hF.2.1 d_D_has_4 rfl (lv_at hl 1 rfl) ?_
    refine lv_aload_n hF.1 hF.2.1 d_D_has_5 rfl (lv_at hl 0 rfl) ?_
    refine gf_D_18 hF hZ (3) (by omega) d1 rfl d_D_has_6 ?_
    refine lv_icmp_ge (tgt := 16) hF.1 hF.2.1 d_D_has_9 (by decide) (fun _ => ?_) (fun h => absurd (hno.resolve_left q1) h)
    refine lv_iconst (v := (nI (0))) hF.1 hF.2.1 d_D_has_16 (by decide) ?_
    exact z_iret hF hr hlocks hZ (by decide) ⟨rfl, by decide⟩ d_D_has_17
set_option maxHeartbeats 4000000 in
set_option maxRecDepth 100000 in
theorem c_D_lettersOf (l : Launch) {G : zG} {ad : Nat → Nat} {en : Nat → va_E} {N : Nat} {sg : Nat → Nat} {C : List wd_W} (hN : 77 ≤ N) (h : pD G ad en sg C) {j : Nat} (hj : j < C.length) : zMr l y_D_lettersOf b_D_lettersOf 2 (.object "SpellDesk$Letters") 1 G ad en N [.ref (ad (3)), .int (nI (j))] (fun v en1 => en1 = en ∧ v = ad (6 + 3 * sg j)) := by
  have hh := h
  obtain ⟨d1, d2, ⟨g0, d3, d3g⟩, d4, d5, d6, d7⟩ := hh
  obtain ⟨w, hw⟩ := wd_some hj
  have hw := d7 j w hw
  refine z_met (by decide) (Nat.le_of_ble_eq_true rfl) ?_
  intro p e s m below meth c ls hF hr hlocks hnam hZ hl
  have hF : CallFix p m c b_D_lettersOf 2 s ([.ref (ad (3)), .int (nI (j))] : List Value).toArray zz R_D := hF
  have hl : lv_has ls 2 [(0, .ref (ad (3))), (1, .int (nI (j)))] := hl
  refine lv_aload_n hF.1 hF.2.1 d_D_lettersOf_0 rfl (lv_at hl 0 rfl) ?_
  refine gf_D_11 hF hZ (3) (by omega) d1 rfl d_D_lettersOf_1 ?_
  refine lv_iload_n hF.1 hF.2.1 d_D_lettersOf_4 rfl (lv_at hl 1 rfl) ?_
  refine z_oald hF hZ (4) (by omega) d3 (j) (by omega) (by omega) (d3g (j) (by omega)) d_D_lettersOf_5 ?_
  refine gf_D_22 hF hZ (5 + 3 * sg (j)) (by have := d4 j (by omega); omega) hw.1 rfl d_D_lettersOf_6 ?_
  exact z_aret hF hr (Or.inl ⟨_, rfl⟩) hlocks hZ ⟨rfl, rfl⟩ d_D_lettersOf_9
set_option maxHeartbeats 4000000 in
set_option maxRecDepth 100000 in
theorem c_D_timesOf (l : Launch) {G : zG} {ad : Nat → Nat} {en : Nat → va_E} {N : Nat} {sg : Nat → Nat} {C : List wd_W} (hN : 77 ≤ N) (h : pD G ad en sg C) {j : Nat} {w : wd_W} (hj : C[j]? = some w) : zMi l y_D_timesOf b_D_timesOf 2 .int 1 G ad en N [.ref (ad (3)), .int (nI (j))] (fun v en1 => en1 = en ∧ v = nI w.2) := by
  have hh := h
  obtain ⟨d1, d2, ⟨g0, d3, d3g⟩, d4, d5, d6, d7⟩ := hh
  have hjl := wd_lt_of hj
  have hw := d7 j w hj
  refine z_met (by decide) (Nat.le_of_ble_eq_true rfl) ?_
  intro p e s m below meth c ls hF hr hlocks hnam hZ hl
  have hF : CallFix p m c b_D_timesOf 2 s ([.ref (ad (3)), .int (nI (j))] : List Value).toArray zz R_D := hF
  have hl : lv_has ls 2 [(0, .ref (ad (3))), (1, .int (nI (j)))] := hl
  refine lv_aload_n hF.1 hF.2.1 d_D_timesOf_0 rfl (lv_at hl 0 rfl) ?_
  refine gf_D_11 hF hZ (3) (by omega) d1 rfl d_D_timesOf_1 ?_
  refine lv_iload_n hF.1 hF.2.1 d_D_timesOf_4 rfl (lv_at hl 1 rfl) ?_
  refine z_oald hF hZ (4) (by omega) d3 (j) (by omega) (by omega) (d3g (j) (by omega)) d_D_timesOf_5 ?_
  refine gf_D_26 hF hZ (5 + 3 * sg (j)) (by have := d4 j (by omega); omega) hw.1 rfl d_D_timesOf_6 ?_
  exact z_iret hF hr hlocks hZ rfl ⟨rfl, rfl⟩ d_D_timesOf_9
set_option maxHeartbeats 4000000 in
set_option maxRecDepth 100000 in
theorem c_D_addTimes (l : Launch) {G : zG} {ad : Nat → Nat} {en : Nat → va_E} {N : Nat} {sg : Nat → Nat} {C : List wd_W} (hN : 77 ≤ N) (h : pD G ad en sg C) {j t : Nat} {w : wd_W} (hj : C[j]? = some w) (ht : t ≤ 1000000) : zMv l y_D_addTimes b_D_addTimes 3 1 G ad en N [.ref (ad (3)), .int (nI (j)), .int (nI (t))] (fun en1 => pD G ad en1 sg (C.set j (w.1, min 1000000 (w.2 + t))) ∧ ∀ r, r < 3 ∨ 77 ≤ r → en1 r = en r) := by
  have hh := h
  obtain ⟨d1, d2, ⟨g0, d3, d3g⟩, d4, d5, d6, d7⟩ := hh
  have hjl := wd_lt_of hj
  have hw := d7 j w hj
  have hs := d4 j (by omega)
  have hw2 := hw.2.2
  refine z_met (by decide) (Nat.le_of_ble_eq_true rfl) ?_
  intro p e s m below meth c ls hF hr hlocks hnam hZ hl
  have hF : CallFix p m c b_D_addTimes 3 s ([.ref (ad (3)), .int (nI (j)), .int (nI (t))] : List Value).toArray zz R_D := hF
  have hl : lv_has ls 3 [(0, .ref (ad (3))), (1, .int (nI (j))), (2, .int (nI (t)))] := hl
  refine lv_aload_n hF.1 hF.2.1 d_D_addTimes_0 rfl (lv_at hl 0 rfl) ?_
  refine gf_D_11 hF hZ (3) (by omega) d1 rfl d_D_addTimes_1 ?_
  refine lv_iload_n hF.1 hF.2.1 d_D_addTimes_4 rfl (lv_at hl 1 rfl) ?_
  refine z_oald hF hZ (4) (by omega) d3 (j) (by omega) (by omega) (d3g (j) (by omega)) d_D_addTimes_5 ?_
  refine lv_ldc hF.1 hF.2.1 hF.2.2.2.1 (hF.2.2.2.2 _ cn_D_29) d_D_addTimes_6 ?_
  refine z_top (show (1000000 : Int32) = nI 1000000 by decide) ?_
  refine lv_aload_n hF.1 hF.2.1 d_D_addTimes_8 rfl (lv_at hl 0 rfl) ?_
  refine gf_D_11 hF hZ (3) (by omega) d1 rfl d_D_addTimes_9 ?_
  refine lv_iload_n hF.1 hF.2.1 d_D_addTimes_12 rfl (lv_at hl 1 rfl) ?_
  refine z_oald hF hZ (4) (by omega) d3 (j) (by omega) (by omega) (d3g (j) (by omega)) d_D_addTimes_13 ?_
  refine gf_D_26 hF hZ (5 + 3 * sg (j)) (by have := d4 j (by omega); omega) hw.1 rfl d_D_addTimes_14 ?_
  refine lv_iload_n hF.1 hF.2.1 d_D_addTimes_17 rfl (lv_at hl 2 rfl) ?_
  refine lv_iadd hF.1 hF.2.1 d_D_addTimes_18 ?_
  refine z_top (nI_add (w.2) (t)) ?_
  refine va_mmin hF.1 hF.2.1 (hF.2.2.1.trans hl.1.symm) hF.2.2.2.1 (hF.2.2.2.2 _ ml_D_30) (hF.2.2.2.2 _ sm_Math_min) (hF.2.2.2.2 _ in_Math) (hF.2.2.2.2 _ cd_Math_min) (Nat.le_of_ble_eq_true rfl) (Nat.le_of_ble_eq_true rfl) (Nat.le_of_ble_eq_true rfl) (Nat.le_of_ble_eq_true rfl) d_D_addTimes_19 ?_
  refine z_top (show (if nI (w.2 + t) < nI 1000000 then nI (w.2 + t) else nI 1000000) = nI (min 1000000 (w.2 + t)) by
      by_cases q : w.2 + t < 1000000
      · rw [if_pos (nI_lt q (by omega)), Nat.min_eq_right (by omega)]
      · rw [if_neg (nI_nlt (by omega) (by omega)), Nat.min_eq_left (by omega)]) ?_
  refine pf_D_26 hF hZ (5 + 3 * sg (j)) (by have := d4 j (by omega); omega) hw.1 (Nat.le_of_ble_eq_true rfl) d_D_addTimes_22 (fun H locs hZ => ?_)
  obtain ⟨ze1, hn2⟩ : ∃ z, z = va_up en (5 + 3 * sg (j)) (.inr (kW, [.ref (ad (6 + 3 * sg (j))), .int (nI (min 1000000 (w.2 + t)))])) := ⟨_, rfl⟩
  have hZ : zH G ad ze1 N s H locs := hZ.to hn2.symm
  have ff3 : ze1 (3) = .inr (kD, [.ref (ad (4)), .int (nI (C.length))]) := by rw [hn2, va_up_ne _ _ (by omega)]; exact d1
  have ff4 : ze1 (4) = .inl (zO G, 24, z_refs g0) := by rw [hn2, va_up_ne _ _ (by omega)]; exact d3
  have ff5 : ze1 (5 + 3 * sg (j)) = .inr (kW, [.ref (ad (6 + 3 * sg (j))), .int (nI (min 1000000 (w.2 + t)))]) := by rw [hn2]; exact va_up_self _ _ _
  exact z_vret hF hr hlocks hZ ⟨by subst ze1; exact h.times hj (by omega), fun r q => by subst ze1; rw [va_up_ne _ _ (by omega)]⟩ d_D_addTimes_25
set_option maxHeartbeats 4000000 in
set_option maxRecDepth 100000 in
theorem c_D_isPreferred (l : Launch) {G : zG} {ad : Nat → Nat} {en : Nat → va_E} {N : Nat} {sg : Nat → Nat} {C : List wd_W} (hN : 77 ≤ N) (h : pD G ad en sg C) {i j : Nat} {u w : wd_W} (hi : C[i]? = some u) (hj : C[j]? = some w) : zMi l y_D_isPreferred b_D_isPreferred 3 .boolean 1 G ad en N [.ref (ad (3)), .int (nI (i)), .int (nI (j))] (fun v en1 => en1 = en ∧ v = bI (if u.2 = w.2 then decide (i < j) else decide (w.2 < u.2))) := by
  have hh := h
  obtain ⟨d1, d2, ⟨g0, d3, d3g⟩, d4, d5, d6, d7⟩ := hh
  have hil := wd_lt_of hi
  have hjl := wd_lt_of hj
  have hu := d7 i u hi
  have hw := d7 j w hj
  have hu2 := hu.2.2
  have hw2 := hw.2.2
  refine z_met (by decide) (Nat.le_of_ble_eq_true rfl) ?_
  intro p e s m below meth c ls hF hr hlocks hnam hZ hl
  have hF : CallFix p m c b_D_isPreferred 3 s ([.ref (ad (3)), .int (nI (i)), .int (nI (j))] : List Value).toArray zz R_D := hF
  have hl : lv_has ls 3 [(0, .ref (ad (3))), (1, .int (nI (i))), (2, .int (nI (j)))] := hl
  refine lv_aload_n hF.1 hF.2.1 d_D_isPreferred_0 rfl (lv_at hl 0 rfl) ?_
  refine gf_D_11 hF hZ (3) (by omega) d1 rfl d_D_isPreferred_1 ?_
  refine lv_iload_n hF.1 hF.2.1 d_D_isPreferred_4 rfl (lv_at hl 1 rfl) ?_
  refine z_oald hF hZ (4) (by omega) d3 (i) (by omega) (by omega) (d3g (i) (by omega)) d_D_isPreferred_5 ?_
  refine gf_D_26 hF hZ (5 + 3 * sg (i)) (by have := d4 i (by omega); omega) hu.1 rfl d_D_isPreferred_6 ?_
  refine lv_aload_n hF.1 hF.2.1 d_D_isPreferred_9 rfl (lv_at hl 0 rfl) ?_
  refine gf_D_11 hF hZ (3) (by omega) d1 rfl d_D_isPreferred_10 ?_
  refine lv_iload_n hF.1 hF.2.1 d_D_isPreferred_13 rfl (lv_at hl 2 rfl) ?_
  refine z_oald hF hZ (4) (by omega) d3 (j) (by omega) (by omega) (d3g (j) (by omega)) d_D_isPreferred_14 ?_
  refine gf_D_26 hF hZ (5 + 3 * sg (j)) (by have := d4 j (by omega); omega) hw.1 rfl d_D_isPreferred_15 ?_
  refine lv_icmp_eq (tgt := 48) hF.1 hF.2.1 d_D_isPreferred_18 (by decide) (fun q => ?_) (fun q => ?_)
  · have q := (nI_eq (by omega) (by omega)).mp q
    refine lv_iload_n hF.1 hF.2.1 d_D_isPreferred_48 rfl (lv_at hl 1 rfl) ?_
    refine lv_iload_n hF.1 hF.2.1 d_D_isPreferred_49 rfl (lv_at hl 2 rfl) ?_
    refine lv_icmp_ge (tgt := 57) hF.1 hF.2.1 d_D_isPreferred_50 (by decide) (fun z => ?_) (fun z => ?_)
    · have z := (nI_leI (by omega) (by omega)).mp z
      refine lv_iconst (v := (nI (0))) hF.1 hF.2.1 d_D_isPreferred_57 (by decide) ?_
      exact z_iret hF hr hlocks hZ (by decide) ⟨rfl, by rw [if_pos q, decide_eq_false (by omega)]; rfl⟩ d_D_isPreferred_58
    · have z : i < j := Nat.lt_of_not_le (fun y => z (nI_le y (by omega)))
      refine lv_iconst (v := (nI (1))) hF.1 hF.2.1 d_D_isPreferred_53 (by decide) ?_
      refine lv_goto (tgt := 58) hF.1 hF.2.1 d_D_isPreferred_54 (by decide) ?_
      exact z_iret hF hr hlocks hZ (by decide) ⟨rfl, by rw [if_pos q, decide_eq_true z]; rfl⟩ d_D_isPreferred_58
  · have q : ¬ u.2 = w.2 := fun y => q (by rw [y])
    refine lv_aload_n hF.1 hF.2.1 d_D_isPreferred_21 rfl (lv_at hl 0 rfl) ?_
    refine gf_D_11 hF hZ (3) (by omega) d1 rfl d_D_isPreferred_22 ?_
    refine lv_iload_n hF.1 hF.2.1 d_D_isPreferred_25 rfl (lv_at hl 1 rfl) ?_
    refine z_oald hF hZ (4) (by omega) d3 (i) (by omega) (by omega) (d3g (i) (by omega)) d_D_isPreferred_26 ?_
    refine gf_D_26 hF hZ (5 + 3 * sg (i)) (by have := d4 i (by omega); omega) hu.1 rfl d_D_isPreferred_27 ?_
    refine lv_aload_n hF.1 hF.2.1 d_D_isPreferred_30 rfl (lv_at hl 0 rfl) ?_
    refine gf_D_11 hF hZ (3) (by omega) d1 rfl d_D_isPreferred_31 ?_
    refine lv_iload_n hF.1 hF.2.1 d_D_isPreferred_34 rfl (lv_at hl 2 rfl) ?_
    refine z_oald hF hZ (4) (by omega) d3 (j) (by omega) (by omega) (d3g (j) (by omega)) d_D_isPreferred_35 ?_
    refine gf_D_26 hF hZ (5 + 3 * sg (j)) (by have := d4 j (by omega); omega) hw.1 rfl d_D_isPreferred_36 ?_
    refine lv_icmp_le (tgt := 46) hF.1 hF.2.1 d_D_isPreferred_39 (by decide) (fun z => ?_) (fun z => ?_)
    · have z := (nI_leI (by omega) (by omega)).mp z
      refine lv_iconst (v := (nI (0))) hF.1 hF.2.1 d_D_isPreferred_46 (by decide) ?_
      exact z_iret hF hr hlocks hZ (by decide) ⟨rfl, by rw [if_neg q, decide_eq_false (by omega)]; rfl⟩ d_D_isPreferred_47
    · have z : w.2 < u.2 := Nat.lt_of_not_le (fun y => z (nI_le y (by omega)))
      refine lv_iconst (v := (nI (1))) hF.1 hF.2.1 d_D_isPreferred_42 (by decide) ?_
      refine lv_goto (tgt := 47) hF.1 hF.2.1 d_D_isPreferred_43 (by decide) ?_
      exact z_iret hF hr hlocks hZ (by decide) ⟨rfl, by rw [if_neg q, decide_eq_true z]; rfl⟩ d_D_isPreferred_47
set_option maxHeartbeats 4000000 in
set_option maxRecDepth 100000 in
theorem c_D_find (l : Launch) {G : zG} {ad : Nat → Nat} {en : Nat → va_E} {N : Nat} {sg : Nat → Nat} {C : List wd_W} (hN : 77 ≤ N) (h : pD G ad en sg C) {k2 ka2 cap2 : Nat} {ys : List Nat} (hk2 : k2 < N) (hka2 : ka2 < N) (hne2 : k2 ≠ ka2) (hcap2 : cap2 < 2 ^ 31) (g : pL G ad en k2 ka2 cap2 ys) : zMi l y_D_find b_D_find 3 .int 4 G ad en N [.ref (ad (3)), .ref (ad (k2))] (fun v en1 => en1 = en ∧ ((∃ k w, C[k]? = some w ∧ w.1 = ys ∧ v = nI k) ∨ (v = -1 ∧ ∀ w ∈ C, w.1 ≠ ys))) := by
  have hh := h
  obtain ⟨d1, d2, ⟨g0, d3, d3g⟩, d4, d5, d6, d7⟩ := hh
  have gg := g
  obtain ⟨e3, g1, g26, f2, e4, g2⟩ := gg
  refine z_met (by decide) (Nat.le_of_ble_eq_true rfl) ?_
  intro p e s m below meth c ls hF hr hlocks hnam hZ hl
  have hF : CallFix p m c b_D_find 3 s ([.ref (ad (3)), .ref (ad (k2))] : List Value).toArray zz R_D := hF
  have hl : lv_has ls 3 [(0, .ref (ad (3))), (1, .ref (ad (k2)))] := hl
  have loop : ∀ (n i : Nat) (H : Heap) (locs : List Loc) (ls : Array Slot), (i + n = C.length) → (∀ k w, k < i → C[k]? = some w → w.1 ≠ ys) → lv_has ls 3 [(2, .int (nI (i))), (0, .ref (ad (3))), (1, .ref (ad (k2)))] → zH G ad en N s H locs → W p l e (zR 4) s m ([.ref (ad (3)), .ref (ad (k2))] : List Value).toArray below meth c H locs 0 0 (MQ below (zQi G ad N (fun v en1 => en1 = en ∧ ((∃ k w, C[k]? = some w ∧ w.1 = ys ∧ v = nI k) ∨ (v = -1 ∧ ∀ w ∈ C, w.1 ≠ ys)))) ([.ref (ad (3)), .ref (ad (k2))] : List Value).toArray s 0 0 (zA G)) (F0 m 2 ls []) := by
    intro n
    induction n with
    | zero =>
      intro i H locs ls hin hp hl hZ
      refine lv_iload_n hF.1 hF.2.1 d_D_find_2 rfl (lv_at hl 0 rfl) ?_
      refine lv_aload_n hF.1 hF.2.1 d_D_find_3 rfl (lv_at hl 1 rfl) ?_
      refine gf_D_18 hF hZ (3) (by omega) d1 rfl d_D_find_4 ?_
      refine lv_icmp_ge (tgt := 34) hF.1 hF.2.1 d_D_find_7 (by decide) (fun _ => ?_) (fun h => absurd (nI_le (by omega) (by omega)) h)
      refine lv_iconst (v := ((-1))) hF.1 hF.2.1 d_D_find_34 (by decide) ?_
      refine z_iret hF hr hlocks hZ rfl ⟨rfl, Or.inr ⟨rfl, fun w hw => ?_⟩⟩ d_D_find_35
      obtain ⟨k, hk⟩ := List.getElem?_of_mem hw
      exact hp k w (by have := wd_lt_of hk; omega) hk
    | succ n ih =>
      intro i H locs ls hin hp hl hZ
      obtain ⟨w, hwi⟩ := wd_some (show i < C.length by omega)
      have hw := d7 i w hwi
      have hs := d4 i (by omega)
      have hwL := hw.2.1
      obtain ⟨e5, l1, l26, f5, e6, l2⟩ := hwL
      refine lv_iload_n hF.1 hF.2.1 d_D_find_2 rfl (lv_at hl 0 rfl) ?_
      refine lv_aload_n hF.1 hF.2.1 d_D_find_3 rfl (lv_at hl 1 rfl) ?_
      refine gf_D_18 hF hZ (3) (by omega) d1 rfl d_D_find_4 ?_
      refine lv_icmp_ge (tgt := 34) hF.1 hF.2.1 d_D_find_7 (by decide) (fun h => absurd h (nI_ge (show i < C.length by omega) (by omega))) (fun _ => ?_)
      refine lv_aload_n hF.1 hF.2.1 d_D_find_10 rfl (lv_at hl 1 rfl) ?_
      refine gf_D_11 hF hZ (3) (by omega) d1 rfl d_D_find_11 ?_
      refine lv_iload_n hF.1 hF.2.1 d_D_find_14 rfl (lv_at hl 0 rfl) ?_
      refine z_oald hF hZ (4) (by omega) d3 (i) (by omega) (by omega) (d3g (i) (by omega)) d_D_find_15 ?_
      refine gf_D_22 hF hZ (5 + 3 * sg (i)) (by have := d4 i (by omega); omega) hw.1 rfl d_D_find_16 ?_
      refine lv_aload_n hF.1 hF.2.1 d_D_find_19 rfl (lv_at hl 2 rfl) ?_
      refine z_calli hZ (z_run cw_D_36 hF hZ (6 + 3 * sg (i)) (c_L_isSameAs l (by omega) (by omega) (by omega) (by omega) hw.2.1 hk2 hka2 hne2 hcap2 g) (by decide) (by omega) e5 rfl rfl hl.1 rfl (Nat.le_of_ble_eq_true rfl) d_D_find_20) (fun v enq H locs hp hZ => ?_)
      obtain ⟨he, hv⟩ := hp
      subst hv
      have hZ := hZ.to he
      refine lv_if_eq (tgt := 28) hF.1 hF.2.1 d_D_find_23 (by decide) (fun q => ?_) (fun q => ?_)
      · have q : ¬ w.1 = ys := of_decide_eq_false (bI_0.mp q)
        refine lv_iinc (k := 0) (v := (nI (i + 1))) hF.1 hF.2.1 d_D_find_28 hl rfl (iinc_p (i)) (by decide) rfl (fun ls hl => ?_)
        have hl : lv_has ls 3 [(2, .int (nI (i + 1))), (0, .ref (ad (3))), (1, .ref (ad (k2)))] := hl
        refine lv_goto (tgt := 2) hF.1 hF.2.1 d_D_find_31 (by decide) ?_
        refine ih (i + 1) H locs ls (by omega) (fun k v hk hv => ?_) hl hZ
        by_cases y : k = i
        · subst y; cases hwi.symm.trans hv; exact q
        · exact hp k v (by omega) hv
      · have q : w.1 = ys := Classical.byContradiction (fun y => q (bI_0.mpr (decide_eq_false y)))
        refine lv_iload_n hF.1 hF.2.1 d_D_find_26 rfl (lv_at hl 0 rfl) ?_
        exact z_iret hF hr hlocks hZ rfl ⟨rfl, Or.inl ⟨i, w, hwi, q, rfl⟩⟩ d_D_find_27
  refine lv_iconst (v := (nI (0))) hF.1 hF.2.1 d_D_find_0 (by decide) ?_
  refine lv_istore_n hF.1 hF.2.1 d_D_find_1 rfl hl (by decide) rfl (fun ls hl => ?_)
  have hl : lv_has ls 3 [(2, .int (nI (0))), (0, .ref (ad (3))), (1, .ref (ad (k2)))] := hl
  exact loop C.length 0 _ _ ls (by omega) (fun k w hk => absurd hk (Nat.not_lt_zero _)) hl hZ
set_option maxHeartbeats 4000000 in
set_option maxRecDepth 100000 in
theorem c_D_placeFor (l : Launch) {G : zG} {ad : Nat → Nat} {en : Nat → va_E} {N : Nat} {sg : Nat → Nat} {C : List wd_W} (hN : 77 ≤ N) (h : pD G ad en sg C) {k2 ka2 cap2 : Nat} {ys : List Nat} (hk2 : k2 < N) (hka2 : ka2 < N) (hne2 : k2 ≠ ka2) (hcap2 : cap2 < 2 ^ 31) (g : pL G ad en k2 ka2 cap2 ys) : zMi l y_D_placeFor b_D_placeFor 4 .int 3 G ad en N [.ref (ad (3)), .ref (ad (k2))] (fun v en1 => en1 = en ∧ v = nI (C.countP (fun w => wd_lt w.1 ys))) := by
  have hh := h
  obtain ⟨d1, d2, ⟨g0, d3, d3g⟩, d4, d5, d6, d7⟩ := hh
  have gg := g
  obtain ⟨e3, g1, g26, f2, e4, g2⟩ := gg
  refine z_met (by decide) (Nat.le_of_ble_eq_true rfl) ?_
  intro p e s m below meth c ls hF hr hlocks hnam hZ hl
  have hF : CallFix p m c b_D_placeFor 4 s ([.ref (ad (3)), .ref (ad (k2))] : List Value).toArray zz R_D := hF
  have hl : lv_has ls 4 [(0, .ref (ad (3))), (1, .ref (ad (k2)))] := hl
  have loop : ∀ (n i c0 : Nat) (H : Heap) (locs : List Loc) (ls : Array Slot), (i + n = C.length) → (c0 = (C.take i).countP (fun w => wd_lt w.1 ys)) → lv_has ls 4 [(3, .int (nI (i))), (2, .int (nI (c0))), (0, .ref (ad (3))), (1, .ref (ad (k2)))] → zH G ad en N s H locs → W p l e (zR 3) s m ([.ref (ad (3)), .ref (ad (k2))] : List Value).toArray below meth c H locs 0 0 (MQ below (zQi G ad N (fun v en1 => en1 = en ∧ v = nI (C.countP (fun w => wd_lt w.1 ys)))) ([.ref (ad (3)), .ref (ad (k2))] : List Value).toArray s 0 0 (zA G)) (F0 m 4 ls []) := by
    intro n
    induction n with
    | zero =>
      intro i c0 H locs ls hin hp hl hZ
      refine lv_iload_n hF.1 hF.2.1 d_D_placeFor_4 rfl (lv_at hl 0 rfl) ?_
      refine lv_aload_n hF.1 hF.2.1 d_D_placeFor_5 rfl (lv_at hl 2 rfl) ?_
      refine gf_D_18 hF hZ (3) (by omega) d1 rfl d_D_placeFor_6 ?_
      refine lv_icmp_ge (tgt := 37) hF.1 hF.2.1 d_D_placeFor_9 (by decide) (fun _ => ?_) (fun h => absurd (nI_le (by omega) (by omega)) h)
      refine lv_iload_n hF.1 hF.2.1 d_D_placeFor_37 rfl (lv_at hl 1 rfl) ?_
      exact z_iret hF hr hlocks hZ rfl ⟨rfl, by rw [hp, List.take_of_length_le (by omega)]⟩ d_D_placeFor_38
    | succ n ih =>
      intro i c0 H locs ls hin hp hl hZ
      obtain ⟨w, hwi⟩ := wd_some (show i < C.length by omega)
      have hw := d7 i w hwi
      have hs := d4 i (by omega)
      have hwL := hw.2.1
      obtain ⟨e5, l1, l26, f5, e6, l2⟩ := hwL
      have hct := wd_cnt_s (fun w => wd_lt w.1 ys) hwi
      refine lv_iload_n hF.1 hF.2.1 d_D_placeFor_4 rfl (lv_at hl 0 rfl) ?_
      refine lv_aload_n hF.1 hF.2.1 d_D_placeFor_5 rfl (lv_at hl 2 rfl) ?_
      refine gf_D_18 hF hZ (3) (by omega) d1 rfl d_D_placeFor_6 ?_
      refine lv_icmp_ge (tgt := 37) hF.1 hF.2.1 d_D_placeFor_9 (by decide) (fun h => absurd h (nI_ge (show i < C.length by omega) (by omega))) (fun _ => ?_)
      refine lv_aload_n hF.1 hF.2.1 d_D_placeFor_12 rfl (lv_at hl 2 rfl) ?_
      refine gf_D_11 hF hZ (3) (by omega) d1 rfl d_D_placeFor_13 ?_
      refine lv_iload_n hF.1 hF.2.1 d_D_placeFor_16 rfl (lv_at hl 0 rfl) ?_
      refine z_oald hF hZ (4) (by omega) d3 (i) (by omega) (by omega) (d3g (i) (by omega)) d_D_placeFor_17 ?_
      refine gf_D_22 hF hZ (5 + 3 * sg (i)) (by have := d4 i (by omega); omega) hw.1 rfl d_D_placeFor_18 ?_
      refine lv_aload_n hF.1 hF.2.1 d_D_placeFor_21 rfl (lv_at hl 3 rfl) ?_
      refine z_calli hZ (z_run cw_D_54 hF hZ (6 + 3 * sg (i)) (c_L_isBefore l (by omega) (by omega) (by omega) (by omega) hw.2.1 hk2 hka2 hne2 hcap2 g) (by decide) (by omega) e5 rfl rfl hl.1 rfl (Nat.le_of_ble_eq_true rfl) d_D_placeFor_22) (fun v enq H locs hp hZ => ?_)
      obtain ⟨he, hv⟩ := hp
      subst hv
      have hZ := hZ.to he
      refine lv_if_eq (tgt := 31) hF.1 hF.2.1 d_D_placeFor_25 (by decide) (fun q => ?_) (fun q => ?_)
      · have q := bI_0.mp q
        refine lv_iinc (k := 0) (v := (nI (i + 1))) hF.1 hF.2.1 d_D_placeFor_31 hl rfl (iinc_p (i)) (by decide) rfl (fun ls hl => ?_)
        have hl : lv_has ls 4 [(3, .int (nI (i + 1))), (2, .int (nI (c0))), (0, .ref (ad (3))), (1, .ref (ad (k2)))] := hl
        refine lv_goto (tgt := 4) hF.1 hF.2.1 d_D_placeFor_34 (by decide) ?_
        exact ih (i + 1) c0 H locs ls (by omega) (by rw [hct, q, ← hp]; rfl) hl hZ
      · have q : wd_lt w.1 ys = true := by cases y : wd_lt w.1 ys with
          | false => exact absurd (bI_0.mpr y) q
          | true => rfl
        refine lv_iinc (k := 1) (v := (nI (c0 + 1))) hF.1 hF.2.1 d_D_placeFor_28 hl rfl (iinc_p (c0)) (by decide) rfl (fun ls hl => ?_)
        have hl : lv_has ls 4 [(2, .int (nI (c0 + 1))), (3, .int (nI (i))), (0, .ref (ad (3))), (1, .ref (ad (k2)))] := hl
        refine lv_iinc (k := 1) (v := (nI (i + 1))) hF.1 hF.2.1 d_D_placeFor_31 hl rfl (iinc_p (i)) (by decide) rfl (fun ls hl => ?_)
        have hl : lv_has ls 4 [(3, .int (nI (i + 1))), (2, .int (nI (c0 + 1))), (0, .ref (ad (3))), (1, .ref (ad (k2)))] := hl
        refine lv_goto (tgt := 4) hF.1 hF.2.1 d_D_placeFor_34 (by decide) ?_
        exact ih (i + 1) (c0 + 1) H locs ls (by omega) (by rw [hct, q, ← hp]; rfl) hl hZ
  refine lv_iconst (v := (nI (0))) hF.1 hF.2.1 d_D_placeFor_0 (by decide) ?_
  refine lv_istore_n hF.1 hF.2.1 d_D_placeFor_1 rfl hl (by decide) rfl (fun ls hl => ?_)
  have hl : lv_has ls 4 [(2, .int (nI (0))), (0, .ref (ad (3))), (1, .ref (ad (k2)))] := hl
  refine lv_iconst (v := (nI (0))) hF.1 hF.2.1 d_D_placeFor_2 (by decide) ?_
  refine lv_istore_n hF.1 hF.2.1 d_D_placeFor_3 rfl hl (by decide) rfl (fun ls hl => ?_)
  have hl : lv_has ls 4 [(3, .int (nI (0))), (2, .int (nI (0))), (0, .ref (ad (3))), (1, .ref (ad (k2)))] := hl
  exact loop C.length 0 0 _ _ ls (by omega) (by rw [List.take_zero]; rfl) hl hZ
end
section
def px_t (j i k : Nat) : Nat := if j ≤ k ∧ k < i then k + 1 else k
theorem px_s1 {n p k : Nat} : px_s n (p + k + 1) (p + k) = p + k := by unfold px_s; rw [if_neg (by omega)]
theorem px_s2 {n p k : Nat} (h : p + k + 1 ≤ n) : px_s n (p + k) (p + k + 1) = p + k := by unfold px_s; rw [if_pos (by omega)]; omega
theorem px_s3 {n q i : Nat} (h : i ≠ q + 1) : px_s n (q + 1) i = px_s n q i := by
  unfold px_s
  by_cases a : q + 1 < i ∧ i ≤ n
  · rw [if_pos a, if_pos (by omega)]
  · rw [if_neg a, if_neg (by omega)]
theorem px_s4 {n i : Nat} : px_s n n i = i := by unfold px_s; rw [if_neg (by omega)]
theorem px_i1 {n p : Nat} : px_i n p p = n := by unfold px_i; rw [if_neg (by omega), if_pos rfl]
theorem px_i2 {n p i : Nat} (h : i ≠ p) : px_i n p i = px_s n p i := by
  unfold px_i px_s
  by_cases a : i < p
  · rw [if_pos a, if_neg (by omega)]
  · rw [if_neg a, if_neg h]
    by_cases b : i ≤ n
    · rw [if_pos b, if_pos (by omega)]
    · rw [if_neg b, if_neg (by omega)]
theorem px_t0 {j i : Nat} : px_t j j i = i := by unfold px_t; rw [if_neg (by omega)]
theorem px_t1 {j i : Nat} : px_t j i (i + 1) = i + 1 := by unfold px_t; rw [if_neg (by omega)]
theorem px_t2 {j i : Nat} (h : j ≤ i) : px_t j (i + 1) i = i + 1 := by unfold px_t; rw [if_pos (by omega)]
theorem px_t3 {j i k : Nat} (h : k ≠ i) : px_t j (i + 1) k = px_t j i k := by
  unfold px_t
  by_cases a : j ≤ k ∧ k < i
  · rw [if_pos a, if_pos (by omega)]
  · rw [if_neg a, if_neg (by omega)]
theorem px_r1 {n j : Nat} (h : j < n) : px_r n j (n - 1) = j := by
  unfold px_r
  by_cases a : n - 1 < j
  · omega
  · rw [if_neg a, if_neg (by omega), if_pos (by omega)]
theorem px_r2 {n j k : Nat} (hj : j < n) (h : k ≠ n - 1) : px_r n j k = px_t j (n - 1) k := by
  unfold px_r px_t
  by_cases a : k < j
  · rw [if_pos a, if_neg (by omega)]
  · rw [if_neg a]
    by_cases b : k + 1 < n
    · rw [if_pos b, if_pos (by omega)]
    · rw [if_neg b, if_neg (by omega), if_neg (by omega)]
set_option maxHeartbeats 4000000 in
set_option maxRecDepth 100000 in
theorem c_D_insertNo (l : Launch) {G : zG} {ad : Nat → Nat} {en : Nat → va_E} {N : Nat} {sg : Nat → Nat} {C : List wd_W} (hN : 77 ≤ N) (h : pD G ad en sg C) {k2 ka2 cap2 : Nat} {ys : List Nat} (hk2 : k2 < N) (hka2 : ka2 < N) (hne2 : k2 ≠ ka2) (hcap2 : cap2 < 2 ^ 31) (g : pL G ad en k2 ka2 cap2 ys) {t : Nat} (hfull : ¬ C.length < 24) : zMi l y_D_insert b_D_insert 6 .boolean 4 G ad en N [.ref (ad (3)), .ref (ad (k2)), .int (nI (t))] (fun v en1 => v = 0 ∧ en1 = en) := by
  have hh := h
  obtain ⟨d1, d2, ⟨g0, d3, d3g⟩, d4, d5, d6, d7⟩ := hh
  refine z_met (by decide) (Nat.le_of_ble_eq_true rfl) ?_
  intro p e s m below meth c ls hF hr hlocks hnam hZ hl
  have hF : CallFix p m c b_D_insert 6 s ([.ref (ad (3)), .ref (ad (k2)), .int (nI (t))] : List Value).toArray zz R_D := hF
  have hl : lv_has ls 6 [(0, .ref (ad (3))), (1, .ref (ad (k2))), (2, .int (nI (t)))] := hl
  refine lv_aload_n hF.1 hF.2.1 d_D_insert_0 rfl (lv_at hl 0 rfl) ?_
  refine gf_D_18 hF hZ (3) (by omega) d1 rfl d_D_insert_1 ?_
  refine lv_bipush (v := (nI (24))) hF.1 hF.2.1 d_D_insert_4 (by decide) ?_
  refine lv_icmp_lt (tgt := 11) hF.1 hF.2.1 d_D_insert_6 (by decide) (fun h => absurd h (nI_nlt (show 24 ≤ C.length by omega) (by omega))) (fun _ => ?_)
  refine lv_iconst (v := (nI (0))) hF.1 hF.2.1 d_D_insert_9 (by decide) ?_
  exact z_iret hF hr hlocks hZ (by decide) ⟨by decide, rfl⟩ d_D_insert_10
set_option maxHeartbeats 4000000 in
set_option maxRecDepth 100000 in
theorem c_D_insert (l : Launch) {G : zG} {ad : Nat → Nat} {en : Nat → va_E} {N : Nat} {sg : Nat → Nat} {C : List wd_W} (hN : 77 ≤ N) (h : pD G ad en sg C) {k2 ka2 cap2 : Nat} {ys : List Nat} (hk2 : k2 < N) (hka2 : ka2 < N) (hne2 : k2 ≠ ka2) (hcap2 : cap2 < 2 ^ 31) (g : pL G ad en k2 ka2 cap2 ys) (hd1 : k2 < 3 ∨ 77 ≤ k2) (hd2 : ka2 < 3 ∨ 77 ≤ ka2) (hy8 : ys.length ≤ 8) {t : Nat} (ht : t ≤ 1000000) (hl24 : C.length < 24) : zMi l y_D_insert b_D_insert 6 .boolean 4 G ad en N [.ref (ad (3)), .ref (ad (k2)), .int (nI (t))] (fun v en1 => v = 1 ∧ (∃ sg1, pD G ad en1 sg1 (C.take (C.countP (fun w => wd_lt w.1 ys)) ++ (ys, t) :: C.drop (C.countP (fun w => wd_lt w.1 ys)))) ∧ ∀ r, r < 3 ∨ 77 ≤ r → en1 r = en r) := by
  have hh := h
  obtain ⟨d1, d2, ⟨g0, d3, d3g⟩, d4, d5, d6, d7⟩ := hh
  have hs := d4 C.length hl24
  obtain ⟨⟨t0, w0⟩, xs0, w1⟩ := d6 (sg C.length) hs
  have w2 := w1
  obtain ⟨w3, -⟩ := w2
  refine z_met (by decide) (Nat.le_of_ble_eq_true rfl) ?_
  intro p e s m below meth c ls hF hr hlocks hnam hZ hl
  have hF : CallFix p m c b_D_insert 6 s ([.ref (ad (3)), .ref (ad (k2)), .int (nI (t))] : List Value).toArray zz R_D := hF
  have hl : lv_has ls 6 [(0, .ref (ad (3))), (1, .ref (ad (k2))), (2, .int (nI (t)))] := hl
  refine lv_aload_n hF.1 hF.2.1 d_D_insert_0 rfl (lv_at hl 0 rfl) ?_
  refine gf_D_18 hF hZ (3) (by omega) d1 rfl d_D_insert_1 ?_
  refine lv_bipush (v := (nI (24))) hF.1 hF.2.1 d_D_insert_4 (by decide) ?_
  refine lv_icmp_lt (tgt := 11) hF.1 hF.2.1 d_D_insert_6 (by decide) (fun _ => ?_) (fun h => absurd (nI_lt hl24 (by omega)) h)
  refine lv_aload_n hF.1 hF.2.1 d_D_insert_11 rfl (lv_at hl 0 rfl) ?_
  refine gf_D_11 hF hZ (3) (by omega) d1 rfl d_D_insert_12 ?_
  refine lv_aload_n hF.1 hF.2.1 d_D_insert_15 rfl (lv_at hl 0 rfl) ?_
  refine gf_D_18 hF hZ (3) (by omega) d1 rfl d_D_insert_16 ?_
  refine z_oald hF hZ (4) (by omega) d3 (C.length) (by omega) (by omega) (d3g (C.length) (by omega)) d_D_insert_19 ?_
  refine lv_astore_n hF.1 hF.2.1 d_D_insert_20 rfl hl (by decide) rfl (fun ls hl => ?_)
  have hl : lv_has ls 6 [(3, .ref (ad (5 + 3 * sg (C.length)))), (0, .ref (ad (3))), (1, .ref (ad (k2))), (2, .int (nI (t)))] := hl
  refine lv_aload_n hF.1 hF.2.1 d_D_insert_21 rfl (lv_at hl 0 rfl) ?_
  refine gf_D_22 hF hZ (5 + 3 * sg (C.length)) (by omega) w0 rfl d_D_insert_22 ?_
  refine lv_aload_n hF.1 hF.2.1 d_D_insert_25 rfl (lv_at hl 2 rfl) ?_
  refine z_callv hZ (z_run cw_D_42 hF hZ (6 + 3 * sg (C.length)) (c_L_copyFrom l (by omega) (by omega) (by omega) (by omega) w1 hk2 hka2 hne2 hcap2 g (by omega) (by omega) (by omega) (by omega) hy8) (by decide) (by omega) w3 rfl rfl hl.1 rfl (Nat.le_of_ble_eq_true rfl) d_D_insert_26) (fun en1 H locs hq hZ => ?_)
  obtain ⟨hq1, hq2⟩ := hq
  have w0 : en1 (5 + 3 * sg C.length) = .inr (kW, [.ref (ad (6 + 3 * sg C.length)), .int t0]) := by rw [hq2 _ (by omega) (by omega)]; exact w0
  refine lv_aload_n hF.1 hF.2.1 d_D_insert_29 rfl (lv_at hl 0 rfl) ?_
  refine lv_iload_n hF.1 hF.2.1 d_D_insert_30 rfl (lv_at hl 3 rfl) ?_
  refine pf_D_26 hF hZ (5 + 3 * sg (C.length)) (by omega) w0 (Nat.le_of_ble_eq_true rfl) d_D_insert_31 (fun H locs hZ => ?_)
  obtain ⟨ze1, hn2⟩ : ∃ z, z = va_up en1 (5 + 3 * sg (C.length)) (.inr (kW, [.ref (ad (6 + 3 * sg (C.length))), .int (nI (t))])) := ⟨_, rfl⟩
  have hZ : zH G ad ze1 N s H locs := hZ.to hn2.symm
  have ff3 : ze1 (5 + 3 * sg (C.length)) = .inr (kW, [.ref (ad (6 + 3 * sg (C.length))), .int (nI (t))]) := by rw [hn2]; exact va_up_self _ _ _
  have fr2 : ∀ r, r ≠ 5 + 3 * sg C.length → r ≠ 6 + 3 * sg C.length → r ≠ 7 + 3 * sg C.length → ze1 r = en r := fun r q1 q2 q3 => by rw [hn2, va_up_ne _ _ q1]; exact hq2 r q2 q3
  have hL2 : pL G ad ze1 (6 + 3 * sg C.length) (7 + 3 * sg C.length) 8 ys := hq1.keep (by rw [hn2, va_up_ne _ _ (by omega)]) (by rw [hn2, va_up_ne _ _ (by omega)])
  have hD2 : pD G ad ze1 sg C := h.spare hl24 fr2 ff3 hL2
  have g3 : pL G ad ze1 k2 ka2 cap2 ys := g.keep (fr2 _ (by omega) (by omega) (by omega)) (fr2 _ (by omega) (by omega) (by omega))
  have hh2 := hD2
  obtain ⟨c1, c2, ⟨gg0, c3, c3g⟩, -, -, c6, -⟩ := hh2
  refine lv_aload_n hF.1 hF.2.1 d_D_insert_34 rfl (lv_at hl 1 rfl) ?_
  refine lv_aload_n hF.1 hF.2.1 d_D_insert_35 rfl (lv_at hl 2 rfl) ?_
  refine z_calli hZ (z_run cw_D_46 hF hZ (3) (c_D_placeFor l hN hD2 hk2 hka2 hne2 hcap2 g3) (by decide) (by omega) c1 rfl rfl hl.1 rfl (Nat.le_of_ble_eq_true rfl) d_D_insert_36) (fun v enq H locs hp hZ => ?_)
  obtain ⟨he, hv⟩ := hp
  subst hv
  have hZ := hZ.to he
  obtain ⟨p0, hp0⟩ : ∃ q, q = C.countP (fun w => wd_lt w.1 ys) := ⟨_, rfl⟩
  refine z_top (show nI (C.countP (fun w => wd_lt w.1 ys)) = nI p0 by rw [hp0]) ?_
  have hpl : p0 ≤ C.length := by rw [hp0]; exact List.countP_le_length
  have loop : ∀ (k : Nat) (en3 : Nat → va_E) (g : Nat → Option Nat) (H : Heap) (locs : List Loc) (ls : Array Slot), (p0 + k ≤ C.length) → (∀ r, r ≠ 4 → en3 r = ze1 r) → (en3 4 = .inl (zO G, 24, z_refs g)) → (∀ i, i < 24 → g i = some (ad (5 + 3 * sg (px_s C.length (p0 + k) i)))) → lv_has ls 6 [(5, .int (nI (p0 + k))), (4, .int (nI (p0))), (3, .ref (ad (5 + 3 * sg (C.length)))), (0, .ref (ad (3))), (1, .ref (ad (k2))), (2, .int (nI (t)))] → zH G ad en3 N s H locs → W p l e (zR 4) s m ([.ref (ad (3)), .ref (ad (k2)), .int (nI (t))] : List Value).toArray below meth c H locs 0 0 (MQ below (zQi G ad N (fun v en1 => v = 1 ∧ (∃ sg1, pD G ad en1 sg1 (C.take (C.countP (fun w => wd_lt w.1 ys)) ++ (ys, t) :: C.drop (C.countP (fun w => wd_lt w.1 ys)))) ∧ ∀ r, r < 3 ∨ 77 ≤ r → en1 r = en r)) ([.ref (ad (3)), .ref (ad (k2)), .int (nI (t))] : List Value).toArray s 0 0 (zA G)) (F0 m 47 ls []) := by
    intro k
    induction k with
    | zero =>
      intro en3 g H locs ls hk0 hfr h4 hg hl hZ
      have c1 : en3 3 = _ := (hfr 3 (by omega)).trans c1
      have wf : en3 (5 + 3 * sg C.length) = _ := (hfr _ (by omega)).trans ff3
      have hl : lv_has ls 6 [(5, .int (nI (p0))), (4, .int (nI (p0))), (3, .ref (ad (5 + 3 * sg (C.length)))), (0, .ref (ad (3))), (1, .ref (ad (k2))), (2, .int (nI (t)))] := hl
      refine lv_iload hF.1 hF.2.1 d_D_insert_47 (lv_at hl 0 rfl) ?_
      refine lv_iload hF.1 hF.2.1 d_D_insert_49 (lv_at hl 1 rfl) ?_
      refine lv_icmp_le (tgt := 76) hF.1 hF.2.1 d_D_insert_51 (by decide) (fun _ => ?_) (fun h => absurd (nI_le (Nat.le_refl _) (by omega)) h)
      refine lv_aload_n hF.1 hF.2.1 d_D_insert_76 rfl (lv_at hl 3 rfl) ?_
      refine gf_D_11 hF hZ (3) (by omega) c1 rfl d_D_insert_77 ?_
      refine lv_iload hF.1 hF.2.1 d_D_insert_80 (lv_at hl 1 rfl) ?_
      refine lv_aload_n hF.1 hF.2.1 d_D_insert_82 rfl (lv_at hl 2 rfl) ?_
      refine z_oast hF hZ (4) (by omega) h4 (p0) (by omega) (by omega) (5 + 3 * sg (C.length)) (by omega) wf rfl rfl d_D_insert_83 (fun H locs hZ => ?_)
      obtain ⟨ze4, hn5⟩ : ∃ z, z = va_up en3 (4) (.inl (zO G, 24, z_refs (va_up g (p0) (some (ad (5 + 3 * sg (C.length))))))) := ⟨_, rfl⟩
      have hZ : zH G ad ze4 N s H locs := hZ.to hn5.symm
      have ff6 : ze4 (3) = .inr (kD, [.ref (ad (4)), .int (nI (C.length))]) := by rw [hn5, va_up_ne _ _ (by omega)]; exact c1
      have ff7 : ze4 (5 + 3 * sg (C.length)) = .inr (kW, [.ref (ad (6 + 3 * sg (C.length))), .int (nI (t))]) := by rw [hn5, va_up_ne _ _ (by omega)]; exact wf
      have c4 : ze4 4 = .inl (zO G, 24, z_refs (va_up g p0 (some (ad (5 + 3 * sg C.length))))) := by rw [hn5]; exact va_up_self _ _ _
      refine lv_aload_n hF.1 hF.2.1 d_D_insert_84 rfl (lv_at hl 3 rfl) ?_
      refine lv_dup hF.1 hF.2.1 d_D_insert_85 rfl ?_
      refine gf_D_18 hF hZ (3) (by omega) ff6 rfl d_D_insert_86 ?_
      refine lv_iconst (v := (nI (1))) hF.1 hF.2.1 d_D_insert_89 (by decide) ?_
      refine lv_iadd hF.1 hF.2.1 d_D_insert_90 ?_
      refine z_top (nI_add (C.length) (1)) ?_
      refine pf_D_18 hF hZ (3) (by omega) ff6 (Nat.le_of_ble_eq_true rfl) d_D_insert_91 (fun H locs hZ => ?_)
      obtain ⟨ze8, hn9⟩ : ∃ z, z = va_up ze4 (3) (.inr (kD, [.ref (ad (4)), .int (nI (C.length + 1))])) := ⟨_, rfl⟩
      have hZ : zH G ad ze8 N s H locs := hZ.to hn9.symm
      have ff10 : ze8 (5 + 3 * sg (C.length)) = .inr (kW, [.ref (ad (6 + 3 * sg (C.length))), .int (nI (t))]) := by rw [hn9, va_up_ne _ _ (by omega)]; exact ff7
      have ff11 : ze8 (3) = .inr (kD, [.ref (ad (4)), .int (nI (C.length + 1))]) := by rw [hn9]; exact va_up_self _ _ _
      refine lv_iconst (v := (nI (1))) hF.1 hF.2.1 d_D_insert_94 (by decide) ?_
      refine z_iret hF hr hlocks hZ (by decide) ⟨by decide, ⟨(fun k => sg (px_i C.length p0 k)), ?_⟩, fun r q => ?_⟩ d_D_insert_95
      · rw [← hp0]
        refine hD2.ins hl24 hpl ht ff3 hL2 (fun r q1 q2 => ?_) ff11 (g := va_up g p0 (some (ad (5 + 3 * sg C.length)))) (by rw [hn9, va_up_ne _ _ (by omega)]; exact c4) (fun i hi => ?_)
        · rw [hn9, va_up_ne _ _ q1, hn5, va_up_ne _ _ q2]; exact hfr r q2
        · by_cases e : i = p0
          · subst e; rw [va_up_self, px_i1]
          · rw [va_up_ne _ _ e, hg i hi, px_i2 e]; rfl
      · rw [hn9, va_up_ne _ _ (by omega), hn5, va_up_ne _ _ (by omega), hfr r (by omega)]; exact fr2 r (by omega) (by omega) (by omega)
    | succ k ih =>
      intro en3 g H locs ls hk0 hfr h4 hg hl hZ
      have c1 : en3 3 = _ := (hfr 3 (by omega)).trans c1
      have hsk := d4 (p0 + k) (by omega)
      obtain ⟨⟨t1, a1⟩, -⟩ := c6 (sg (p0 + k)) hsk
      have a1 : en3 (5 + 3 * sg (p0 + k)) = _ := (hfr _ (by omega)).trans a1
      have hl : lv_has ls 6 [(5, .int (nI (p0 + k + 1))), (4, .int (nI (p0))), (3, .ref (ad (5 + 3 * sg (C.length)))), (0, .ref (ad (3))), (1, .ref (ad (k2))), (2, .int (nI (t)))] := hl
      refine lv_iload hF.1 hF.2.1 d_D_insert_47 (lv_at hl 0 rfl) ?_
      refine lv_iload hF.1 hF.2.1 d_D_insert_49 (lv_at hl 1 rfl) ?_
      refine lv_icmp_le (tgt := 76) hF.1 hF.2.1 d_D_insert_51 (by decide) (fun h => absurd h (nI_ge (show p0 < p0 + k + 1 by omega) (by omega))) (fun _ => ?_)
      refine lv_aload_n hF.1 hF.2.1 d_D_insert_54 rfl (lv_at hl 3 rfl) ?_
      refine gf_D_11 hF hZ (3) (by omega) c1 rfl d_D_insert_55 ?_
      refine lv_iload hF.1 hF.2.1 d_D_insert_58 (lv_at hl 0 rfl) ?_
      refine lv_aload_n hF.1 hF.2.1 d_D_insert_60 rfl (lv_at hl 3 rfl) ?_
      refine gf_D_11 hF hZ (3) (by omega) c1 rfl d_D_insert_61 ?_
      refine lv_iload hF.1 hF.2.1 d_D_insert_64 (lv_at hl 0 rfl) ?_
      refine lv_iconst (v := (nI (1))) hF.1 hF.2.1 d_D_insert_66 (by decide) ?_
      refine lv_isub hF.1 hF.2.1 d_D_insert_67 ?_
      refine z_top (pk_sub (show 1 ≤ p0 + k + 1 by omega)) ?_
      refine z_oald hF hZ (4) (by omega) h4 (p0 + k) (by omega) (by omega) ((hg (p0 + k) (by omega)).trans (by rw [show p0 + (k + 1) = p0 + k + 1 from rfl, px_s1])) d_D_insert_68 ?_
      refine z_oast hF hZ (4) (by omega) h4 (p0 + k + 1) (by omega) (by omega) (5 + 3 * sg (p0 + k)) (by omega) a1 rfl rfl d_D_insert_69 (fun H locs hZ => ?_)
      obtain ⟨ze12, hn13⟩ : ∃ z, z = va_up en3 (4) (.inl (zO G, 24, z_refs (va_up g (p0 + k + 1) (some (ad (5 + 3 * sg (p0 + k))))))) := ⟨_, rfl⟩
      have hZ : zH G ad ze12 N s H locs := hZ.to hn13.symm
      have ff14 : ze12 (3) = .inr (kD, [.ref (ad (4)), .int (nI (C.length))]) := by rw [hn13, va_up_ne _ _ (by omega)]; exact c1
      have ff15 : ze12 (5 + 3 * sg (p0 + k)) = .inr (kW, [.ref (ad (6 + 3 * sg (p0 + k))), .int (t1)]) := by rw [hn13, va_up_ne _ _ (by omega)]; exact a1
      refine lv_iinc (k := 0) (v := (nI (p0 + k))) hF.1 hF.2.1 d_D_insert_70 hl rfl (iinc_q (p0 + k)) (by decide) rfl (fun ls hl => ?_)
      have hl : lv_has ls 6 [(5, .int (nI (p0 + k))), (4, .int (nI (p0))), (3, .ref (ad (5 + 3 * sg (C.length)))), (0, .ref (ad (3))), (1, .ref (ad (k2))), (2, .int (nI (t)))] := hl
      refine lv_goto (tgt := 47) hF.1 hF.2.1 d_D_insert_73 (by decide) ?_
      refine ih ze12 (va_up g (p0 + k + 1) (some (ad (5 + 3 * sg (p0 + k))))) H locs ls (by omega) (fun r q => ?_) (by rw [hn13]; exact va_up_self _ _ _) (fun i hi => ?_) hl hZ
      · rw [hn13, va_up_ne _ _ q]; exact hfr r q
      · by_cases e : i = p0 + k + 1
        · subst e; rw [va_up_self, px_s2 (by omega)]
        · rw [va_up_ne _ _ e, hg i hi, show p0 + (k + 1) = p0 + k + 1 from rfl, px_s3 e]
  refine lv_istore hF.1 hF.2.1 d_D_insert_39 hl (by decide) rfl (fun ls hl => ?_)
  have hl : lv_has ls 6 [(4, .int (nI (p0))), (3, .ref (ad (5 + 3 * sg (C.length)))), (0, .ref (ad (3))), (1, .ref (ad (k2))), (2, .int (nI (t)))] := hl
  refine lv_aload_n hF.1 hF.2.1 d_D_insert_41 rfl (lv_at hl 2 rfl) ?_
  refine gf_D_18 hF hZ (3) (by omega) c1 rfl d_D_insert_42 ?_
  refine lv_istore hF.1 hF.2.1 d_D_insert_45 hl (by decide) rfl (fun ls hl => ?_)
  have hl : lv_has ls 6 [(5, .int (nI (C.length))), (4, .int (nI (p0))), (3, .ref (ad (5 + 3 * sg (C.length)))), (0, .ref (ad (3))), (1, .ref (ad (k2))), (2, .int (nI (t)))] := hl
  obtain ⟨k0, hk0⟩ : ∃ k0, C.length = p0 + k0 := ⟨C.length - p0, by omega⟩
  exact loop k0 ze1 gg0 _ _ ls (by omega) (fun _ _ => rfl) c3 (fun i hi => by rw [← hk0, px_s4]; exact c3g i hi) (by rw [← hk0]; exact hl) hZ
set_option maxHeartbeats 4000000 in
set_option maxRecDepth 100000 in
theorem c_D_removeNo (l : Launch) {G : zG} {ad : Nat → Nat} {en : Nat → va_E} {N : Nat} {sg : Nat → Nat} {C : List wd_W} (hN : 77 ≤ N) (h : pD G ad en sg C) {k : Int32} (hno : k < 0 ∨ nI C.length ≤ k) : zMi l y_D_remove b_D_remove 4 .boolean 2 G ad en N [.ref (ad (3)), .int (k)] (fun v en1 => v = 0 ∧ en1 = en) := by
  have hh := h
  obtain ⟨d1, d2, ⟨g0, d3, d3g⟩, d4, d5, d6, d7⟩ := hh
  refine z_met (by decide) (Nat.le_of_ble_eq_true rfl) ?_
  intro p e s m below meth c ls hF hr hlocks hnam hZ hl
  have hF : CallFix p m c b_D_remove 4 s ([.ref (ad (3)), .int (k)] : List Value).toArray zz R_D := hF
  have hl : lv_has ls 4 [(0, .ref (ad (3))), (1, .int (k))] := hl
  refine lv_aload_n hF.1 hF.2.1 d_D_remove_0 rfl (lv_at hl 0 rfl) ?_
  refine lv_iload_n hF.1 hF.2.1 d_D_remove_1 rfl (lv_at hl 1 rfl) ?_
  refine z_calli hZ (z_run cw_D_50 hF hZ (3) (c_D_hasNo l hN h hno) (by decide) (by omega) d1 rfl rfl hl.1 rfl (Nat.le_of_ble_eq_true rfl) d_D_remove_2) (fun v enq H locs hp hZ => ?_)
  obtain ⟨he, hv⟩ := hp
  subst hv
  have hZ := hZ.to he
  refine lv_if_ne (tgt := 10) hF.1 hF.2.1 d_D_remove_5 (by decide) (fun h => absurd rfl h) (fun _ => ?_)
  refine lv_iconst (v := (nI (0))) hF.1 hF.2.1 d_D_remove_8 (by decide) ?_
  exact z_iret hF hr hlocks hZ (by decide) ⟨by decide, rfl⟩ d_D_remove_9
set_option maxHeartbeats 4000000 in
set_option maxRecDepth 100000 in
theorem c_D_remove (l : Launch) {G : zG} {ad : Nat → Nat} {en : Nat → va_E} {N : Nat} {sg : Nat → Nat} {C : List wd_W} (hN : 77 ≤ N) (h : pD G ad en sg C) {j : Nat} (hj : j < C.length) : zMi l y_D_remove b_D_remove 4 .boolean 2 G ad en N [.ref (ad (3)), .int (nI (j))] (fun v en1 => v = 1 ∧ (∃ sg1, pD G ad en1 sg1 (C.eraseIdx j)) ∧ ∀ r, r < 3 ∨ 77 ≤ r → en1 r = en r) := by
  have hh := h
  obtain ⟨d1, d2, ⟨g0, d3, d3g⟩, d4, d5, d6, d7⟩ := hh
  have hs := d4 j (by omega)
  obtain ⟨⟨t0, w0⟩, -⟩ := d6 (sg j) hs
  refine z_met (by decide) (Nat.le_of_ble_eq_true rfl) ?_
  intro p e s m below meth c ls hF hr hlocks hnam hZ hl
  have hF : CallFix p m c b_D_remove 4 s ([.ref (ad (3)), .int (nI (j))] : List Value).toArray zz R_D := hF
  have hl : lv_has ls 4 [(0, .ref (ad (3))), (1, .int (nI (j)))] := hl
  refine lv_aload_n hF.1 hF.2.1 d_D_remove_0 rfl (lv_at hl 0 rfl) ?_
  refine lv_iload_n hF.1 hF.2.1 d_D_remove_1 rfl (lv_at hl 1 rfl) ?_
  refine z_calli hZ (z_run cw_D_50 hF hZ (3) (c_D_has l hN h hj) (by decide) (by omega) d1 rfl rfl hl.1 rfl (Nat.le_of_ble_eq_true rfl) d_D_remove_2) (fun v enq H locs hp hZ => ?_)
  obtain ⟨he, hv⟩ := hp
  subst hv
  have hZ := hZ.to he
  refine lv_if_ne (tgt := 10) hF.1 hF.2.1 d_D_remove_5 (by decide) (fun _ => ?_) (fun h => absurd h (by decide))
  refine lv_aload_n hF.1 hF.2.1 d_D_remove_10 rfl (lv_at hl 0 rfl) ?_
  refine gf_D_11 hF hZ (3) (by omega) d1 rfl d_D_remove_11 ?_
  refine lv_iload_n hF.1 hF.2.1 d_D_remove_14 rfl (lv_at hl 1 rfl) ?_
  refine z_oald hF hZ (4) (by omega) d3 (j) (by omega) (by omega) (d3g (j) (by omega)) d_D_remove_15 ?_
  refine lv_astore_n hF.1 hF.2.1 d_D_remove_16 rfl hl (by decide) rfl (fun ls hl => ?_)
  have hl : lv_has ls 4 [(2, .ref (ad (5 + 3 * sg (j)))), (0, .ref (ad (3))), (1, .int (nI (j)))] := hl
  refine lv_aload_n hF.1 hF.2.1 d_D_remove_17 rfl (lv_at hl 1 rfl) ?_
  refine lv_dup hF.1 hF.2.1 d_D_remove_18 rfl ?_
  refine gf_D_18 hF hZ (3) (by omega) d1 rfl d_D_remove_19 ?_
  refine lv_iconst (v := (nI (1))) hF.1 hF.2.1 d_D_remove_22 (by decide) ?_
  refine lv_isub hF.1 hF.2.1 d_D_remove_23 ?_
  refine z_top (pk_sub (show 1 ≤ C.length by omega)) ?_
  refine pf_D_18 hF hZ (3) (by omega) d1 (Nat.le_of_ble_eq_true rfl) d_D_remove_24 (fun H locs hZ => ?_)
  obtain ⟨ze1, hn2⟩ : ∃ z, z = va_up en (3) (.inr (kD, [.ref (ad (4)), .int (nI (C.length - (1)))])) := ⟨_, rfl⟩
  have hZ : zH G ad ze1 N s H locs := hZ.to hn2.symm
  have ff3 : ze1 (4) = .inl (zO G, 24, z_refs g0) := by rw [hn2, va_up_ne _ _ (by omega)]; exact d3
  have ff4 : ze1 (5 + 3 * sg (j)) = .inr (kW, [.ref (ad (6 + 3 * sg (j))), .int (t0)]) := by rw [hn2, va_up_ne _ _ (by omega)]; exact w0
  have ff5 : ze1 (3) = .inr (kD, [.ref (ad (4)), .int (nI (C.length - (1)))]) := by rw [hn2]; exact va_up_self _ _ _
  have loop : ∀ (k i : Nat) (en3 : Nat → va_E) (g : Nat → Option Nat) (H : Heap) (locs : List Loc) (ls : Array Slot), (i + k = C.length - 1) → (j ≤ i) → (∀ r, r ≠ 4 → en3 r = ze1 r) → (en3 4 = .inl (zO G, 24, z_refs g)) → (∀ a, a < 24 → g a = some (ad (5 + 3 * sg (px_t j i a)))) → lv_has ls 4 [(3, .int (nI (i))), (2, .ref (ad (5 + 3 * sg (j)))), (0, .ref (ad (3))), (1, .int (nI (j)))] → zH G ad en3 N s H locs → W p l e (zR 2) s m ([.ref (ad (3)), .int (nI (j))] : List Value).toArray below meth c H locs 0 0 (MQ below (zQi G ad N (fun v en1 => v = 1 ∧ (∃ sg1, pD G ad en1 sg1 (C.eraseIdx j)) ∧ ∀ r, r < 3 ∨ 77 ≤ r → en1 r = en r)) ([.ref (ad (3)), .int (nI (j))] : List Value).toArray s 0 0 (zA G)) (F0 m 29 ls []) := by
    intro k
    induction k with
    | zero =>
      intro i en3 g H locs ls hin hji hfr h4 hg hl hZ
      have c1 : en3 3 = _ := (hfr 3 (by omega)).trans ff5
      have wf : en3 (5 + 3 * sg j) = _ := (hfr _ (by omega)).trans ff4
      refine lv_iload_n hF.1 hF.2.1 d_D_remove_29 rfl (lv_at hl 0 rfl) ?_
      refine lv_aload_n hF.1 hF.2.1 d_D_remove_30 rfl (lv_at hl 2 rfl) ?_
      refine gf_D_18 hF hZ (3) (by omega) c1 rfl d_D_remove_31 ?_
      refine lv_icmp_ge (tgt := 57) hF.1 hF.2.1 d_D_remove_34 (by decide) (fun _ => ?_) (fun h => absurd (nI_le (by omega) (by omega)) h)
      refine lv_aload_n hF.1 hF.2.1 d_D_remove_57 rfl (lv_at hl 2 rfl) ?_
      refine gf_D_11 hF hZ (3) (by omega) c1 rfl d_D_remove_58 ?_
      refine lv_aload_n hF.1 hF.2.1 d_D_remove_61 rfl (lv_at hl 2 rfl) ?_
      refine gf_D_18 hF hZ (3) (by omega) c1 rfl d_D_remove_62 ?_
      refine lv_aload_n hF.1 hF.2.1 d_D_remove_65 rfl (lv_at hl 1 rfl) ?_
      refine z_oast hF hZ (4) (by omega) h4 (C.length - (1)) (by omega) (by omega) (5 + 3 * sg (j)) (by omega) wf rfl rfl d_D_remove_66 (fun H locs hZ => ?_)
      obtain ⟨ze6, hn7⟩ : ∃ z, z = va_up en3 (4) (.inl (zO G, 24, z_refs (va_up g (C.length - (1)) (some (ad (5 + 3 * sg (j))))))) := ⟨_, rfl⟩
      have hZ : zH G ad ze6 N s H locs := hZ.to hn7.symm
      have ff8 : ze6 (3) = .inr (kD, [.ref (ad (4)), .int (nI (C.length - (1)))]) := by rw [hn7, va_up_ne _ _ (by omega)]; exact c1
      have ff9 : ze6 (5 + 3 * sg (j)) = .inr (kW, [.ref (ad (6 + 3 * sg (j))), .int (t0)]) := by rw [hn7, va_up_ne _ _ (by omega)]; exact wf
      refine lv_iconst (v := (nI (1))) hF.1 hF.2.1 d_D_remove_67 (by decide) ?_
      refine z_iret hF hr hlocks hZ (by decide) ⟨by decide, ⟨_, h.rem hj (en1 := ze6) (fun r q1 q2 => ?_) ff8 (g := va_up g (C.length - 1) (some (ad (5 + 3 * sg j)))) (by rw [hn7]; exact va_up_self _ _ _) (fun a ha => ?_)⟩, fun r q => ?_⟩ d_D_remove_68
      · rw [hn7, va_up_ne _ _ q2, hfr r q2, hn2, va_up_ne _ _ q1]
      · by_cases e : a = C.length - 1
        · subst e; rw [va_up_self, px_r1 hj]
        · rw [va_up_ne _ _ e, hg a ha, px_r2 hj e, show i = C.length - 1 by omega]
      · rw [hn7, va_up_ne _ _ (by omega), hfr r (by omega), hn2, va_up_ne _ _ (by omega)]
    | succ k ih =>
      intro i en3 g H locs ls hin hji hfr h4 hg hl hZ
      have c1 : en3 3 = _ := (hfr 3 (by omega)).trans ff5
      have hsk := d4 (i + 1) (by omega)
      obtain ⟨⟨t1, a1⟩, -⟩ := d6 (sg (i + 1)) hsk
      have a1 := (show en3 (5 + 3 * sg (i + 1)) = en (5 + 3 * sg (i + 1)) by rw [hfr _ (by omega), hn2, va_up_ne _ _ (by omega)]).trans a1
      refine lv_iload_n hF.1 hF.2.1 d_D_remove_29 rfl (lv_at hl 0 rfl) ?_
      refine lv_aload_n hF.1 hF.2.1 d_D_remove_30 rfl (lv_at hl 2 rfl) ?_
      refine gf_D_18 hF hZ (3) (by omega) c1 rfl d_D_remove_31 ?_
      refine lv_icmp_ge (tgt := 57) hF.1 hF.2.1 d_D_remove_34 (by decide) (fun h => absurd h (nI_ge (show i < C.length - 1 by omega) (by omega))) (fun _ => ?_)
      refine lv_aload_n hF.1 hF.2.1 d_D_remove_37 rfl (lv_at hl 2 rfl) ?_
      refine gf_D_11 hF hZ (3) (by omega) c1 rfl d_D_remove_38 ?_
      refine lv_iload_n hF.1 hF.2.1 d_D_remove_41 rfl (lv_at hl 0 rfl) ?_
      refine lv_aload_n hF.1 hF.2.1 d_D_remove_42 rfl (lv_at hl 2 rfl) ?_
      refine gf_D_11 hF hZ (3) (by omega) c1 rfl d_D_remove_43 ?_
      refine lv_iload_n hF.1 hF.2.1 d_D_remove_46 rfl (lv_at hl 0 rfl) ?_
      refine lv_iconst (v := (nI (1))) hF.1 hF.2.1 d_D_remove_47 (by decide) ?_
      refine lv_iadd hF.1 hF.2.1 d_D_remove_48 ?_
      refine z_top (nI_add (i) (1)) ?_
      refine z_oald hF hZ (4) (by omega) h4 (i + 1) (by omega) (by omega) ((hg (i + 1) (by omega)).trans (by rw [px_t1])) d_D_remove_49 ?_
      refine z_oast hF hZ (4) (by omega) h4 (i) (by omega) (by omega) (5 + 3 * sg (i + 1)) (by omega) a1 rfl rfl d_D_remove_50 (fun H locs hZ => ?_)
      obtain ⟨ze10, hn11⟩ : ∃ z, z = va_up en3 (4) (.inl (zO G, 24, z_refs (va_up g (i) (some (ad (5 + 3 * sg (i + 1))))))) := ⟨_, rfl⟩
      have hZ : zH G ad ze10 N s H locs := hZ.to hn11.symm
      have ff12 : ze10 (3) = .inr (kD, [.ref (ad (4)), .int (nI (C.length - (1)))]) := by rw [hn11, va_up_ne _ _ (by omega)]; exact c1
      have ff13 : ze10 (5 + 3 * sg (i + 1)) = .inr (kW, [.ref (ad (6 + 3 * sg (i + 1))), .int (t1)]) := by rw [hn11, va_up_ne _ _ (by omega)]; exact a1
      refine lv_iinc (k := 0) (v := (nI (i + 1))) hF.1 hF.2.1 d_D_remove_51 hl rfl (iinc_p (i)) (by decide) rfl (fun ls hl => ?_)
      have hl : lv_has ls 4 [(3, .int (nI (i + 1))), (2, .ref (ad (5 + 3 * sg (j)))), (0, .ref (ad (3))), (1, .int (nI (j)))] := hl
      refine lv_goto (tgt := 29) hF.1 hF.2.1 d_D_remove_54 (by decide) ?_
      refine ih (i + 1) ze10 (va_up g i (some (ad (5 + 3 * sg (i + 1))))) H locs ls (by omega) (by omega) (fun r q => ?_) (by rw [hn11]; exact va_up_self _ _ _) (fun a ha => ?_) hl hZ
      · rw [hn11, va_up_ne _ _ q]; exact hfr r q
      · by_cases e : a = i
        · subst e; rw [va_up_self, px_t2 (by omega)]
        · rw [va_up_ne _ _ e, hg a ha, px_t3 e]
  refine lv_iload_n hF.1 hF.2.1 d_D_remove_27 rfl (lv_at hl 2 rfl) ?_
  refine lv_istore_n hF.1 hF.2.1 d_D_remove_28 rfl hl (by decide) rfl (fun ls hl => ?_)
  have hl : lv_has ls 4 [(3, .int (nI (j))), (2, .ref (ad (5 + 3 * sg (j)))), (0, .ref (ad (3))), (1, .int (nI (j)))] := hl
  exact loop (C.length - 1 - j) j ze1 g0 _ _ ls (by omega) (by omega) (fun _ _ => rfl) ff3 (fun a ha => by rw [px_t0]; exact d3g a ha) hl hZ
end
section
theorem nmin {a b : Nat} (ha : a < 2 ^ 31) (hb : b < 2 ^ 31) : (if nI b < nI a then nI b else nI a) = nI (min a b) := by
  by_cases q : b < a
  · rw [if_pos (nI_lt q ha), Nat.min_eq_right (by omega)]
  · rw [if_neg (nI_nlt (by omega) hb), Nat.min_eq_left (by omega)]
theorem iinc_v (c : Nat) : nI c + Int32.ofInt (-1) = iv c := by
  unfold iv; rw [show Int32.ofInt (-1) = -1 by decide, Int32.sub_eq_add_neg]
theorem ed_18 {xs ys : List Nat} {i j : Nat} (hi : i ≤ xs.length) (hj : j ≤ ys.length) (hx : xs.length ≤ 10) (hy : ys.length ≤ 8) : ed_d xs ys i j ≤ 18 := by
  have := ed_d_up xs ys hi hj; omega
theorem cd_iff {xs ys : List Nat} {i j : Nat} (hi : i < xs.length) (hj : j < ys.length) : wd_cd xs i = wd_cd ys j ↔ xs.getD i 0 = ys.getD j 0 := by rw [wd_cd_in hi, wd_cd_in hj]; omega
set_option maxHeartbeats 4000000 in
set_option maxRecDepth 100000 in
theorem c_E_leastCost (l : Launch) {G : zG} {ad : Nat → Nat} {en : Nat → va_E} {N : Nat} {k1 a1 c1 : Nat} {xs : List Nat} (hk1 : k1 < N) (ha1 : a1 < N) (hn1 : k1 ≠ a1) (hc1 : c1 < 2 ^ 31) (g : pL G ad en k1 a1 c1 xs) {k2 a2 c2 : Nat} {ys : List Nat} (hk2 : k2 < N) (ha2 : a2 < N) (hn2 : k2 ≠ a2) (hc2 : c2 < 2 ^ 31) (h : pL G ad en k2 a2 c2 ys) (hx : xs.length ≤ 10) (hy : ys.length ≤ 8) (hN : 90 ≤ N) {M : Nat → Nat → Int32} (hT : pT G ad en 77 kE 9 M) {i j : Nat} (hi : i ≤ xs.length) (hj : j ≤ ys.length) (hM : i < xs.length → j < ys.length → M (i + 1) (j + 1) = nI (ed_d xs ys (i + 1) (j + 1)) ∧ M (i + 1) j = nI (ed_d xs ys (i + 1) j) ∧ M i (j + 1) = nI (ed_d xs ys i (j + 1))) : zMi l y_E_leastCost b_E_leastCost 7 .int 2 G ad en N [.ref (ad (77)), .ref (ad (k1)), .int (nI (i)), .ref (ad (k2)), .int (nI (j))] (fun v en1 => en1 = en ∧ v = nI (ed_d xs ys i j)) := by
  have gg := g
  obtain ⟨e1, g1, g26, f1, e2, g2⟩ := gg
  have hh := h
  obtain ⟨e3, h1, h26, f2, e4, h2⟩ := hh
  have tt := hT
  obtain ⟨t1, ⟨tg, t2, t2g⟩, t3⟩ := tt
  refine z_met (by decide) (Nat.le_of_ble_eq_true rfl) ?_
  intro p e s m below meth c ls hF hr hlocks hnam hZ hl
  have hF : CallFix p m c b_E_leastCost 7 s ([.ref (ad (77)), .ref (ad (k1)), .int (nI (i)), .ref (ad (k2)), .int (nI (j))] : List Value).toArray zz R_E := hF
  have hl : lv_has ls 7 [(0, .ref (ad (77))), (1, .ref (ad (k1))), (2, .int (nI (i))), (3, .ref (ad (k2))), (4, .int (nI (j)))] := hl
  refine lv_iload_n hF.1 hF.2.1 d_E_leastCost_0 rfl (lv_at hl 2 rfl) ?_
  refine lv_aload_n hF.1 hF.2.1 d_E_leastCost_1 rfl (lv_at hl 1 rfl) ?_
  refine gf_E_16 hF hZ (k1) hk1 e1 rfl d_E_leastCost_2 ?_
  refine lv_icmp_ne (tgt := 16) hF.1 hF.2.1 d_E_leastCost_5 (by decide) (fun q => ?_) (fun q => ?_)
  · have q : ¬ i = xs.length := fun z => q (by rw [z])
    refine lv_iload hF.1 hF.2.1 d_E_leastCost_16 (lv_at hl 4 rfl) ?_
    refine lv_aload_n hF.1 hF.2.1 d_E_leastCost_18 rfl (lv_at hl 3 rfl) ?_
    refine gf_E_16 hF hZ (k2) hk2 e3 rfl d_E_leastCost_19 ?_
    refine lv_icmp_ne (tgt := 32) hF.1 hF.2.1 d_E_leastCost_22 (by decide) (fun r => ?_) (fun r => ?_)
    · have r : ¬ j = ys.length := fun z => r (by rw [z])
      obtain ⟨m1, m2, m3⟩ := hM (by omega) (by omega)
      have b1 := ed_18 (xs := xs) (ys := ys) (i := i + 1) (j := j + 1) (by omega) (by omega) hx hy
      have b2 := ed_18 (xs := xs) (ys := ys) (i := i + 1) (j := j) (by omega) (by omega) hx hy
      have b3 := ed_18 (xs := xs) (ys := ys) (i := i) (j := j + 1) (by omega) (by omega) hx hy
      have hs := ed_d_s (t := xs) (w := ys) (i := i) (j := j) (by omega) (by omega)
      refine lv_aload_n hF.1 hF.2.1 d_E_leastCost_32 rfl (lv_at hl 0 rfl) ?_
      refine gf_E_11 hF hZ (77) (by omega) t1 rfl d_E_leastCost_33 ?_
      refine lv_iload_n hF.1 hF.2.1 d_E_leastCost_36 rfl (lv_at hl 2 rfl) ?_
      refine lv_iconst (v := (nI (1))) hF.1 hF.2.1 d_E_leastCost_37 (by decide) ?_
      refine lv_iadd hF.1 hF.2.1 d_E_leastCost_38 ?_
      refine z_top (nI_add (i) (1)) ?_
      refine z_mald hF hZ (77 + 1) (by omega) t2 (i + 1) (by omega) (by omega) (t2g (i + 1) (by omega)) d_E_leastCost_39 ?_
      refine lv_iload hF.1 hF.2.1 d_E_leastCost_40 (lv_at hl 4 rfl) ?_
      refine lv_iconst (v := (nI (1))) hF.1 hF.2.1 d_E_leastCost_42 (by decide) ?_
      refine lv_iadd hF.1 hF.2.1 d_E_leastCost_43 ?_
      refine z_top (nI_add (j) (1)) ?_
      refine z_iald hF hZ (77 + 2 + (i + 1)) (by omega) (t3 (i + 1) (by omega)) (j + 1) (by omega) (by omega) d_E_leastCost_44 ?_
      refine z_top (y := (nI (ed_d xs ys (i + 1) (j + 1)))) m1 ?_
      refine lv_aload_n hF.1 hF.2.1 d_E_leastCost_45 rfl (lv_at hl 1 rfl) ?_
      refine lv_iload_n hF.1 hF.2.1 d_E_leastCost_46 rfl (lv_at hl 2 rfl) ?_
      refine z_calli hZ (z_run cw_E_33 hF hZ (k1) (c_L_atN l hk1 ha1 hn1 hc1 g (j := i) (by omega)) (by decide) hk1 e1 rfl rfl hl.1 rfl (Nat.le_of_ble_eq_true rfl) d_E_leastCost_47) (fun v enq H locs hp hZ => ?_)
      obtain ⟨he, hv⟩ := hp
      subst hv
      have hZ := hZ.to he
      refine lv_aload_n hF.1 hF.2.1 d_E_leastCost_50 rfl (lv_at hl 3 rfl) ?_
      refine lv_iload hF.1 hF.2.1 d_E_leastCost_51 (lv_at hl 4 rfl) ?_
      refine z_calli hZ (z_run cw_E_33 hF hZ (k2) (c_L_atN l hk2 ha2 hn2 hc2 h (j := j) (by omega)) (by decide) hk2 e3 rfl rfl hl.1 rfl (Nat.le_of_ble_eq_true rfl) d_E_leastCost_53) (fun v enq H locs hp hZ => ?_)
      obtain ⟨he, hv⟩ := hp
      subst hv
      have hZ := hZ.to he
      refine lv_icmp_ne (tgt := 63) hF.1 hF.2.1 d_E_leastCost_56 (by decide) (fun u => ?_) (fun u => ?_)
      · have u : ¬ xs.getD i 0 = ys.getD j 0 := fun z => u (by rw [(cd_iff (by omega) (by omega)).mpr z])
        refine lv_iconst (v := (nI (1))) hF.1 hF.2.1 d_E_leastCost_63 (by decide) ?_
        refine lv_iadd hF.1 hF.2.1 d_E_leastCost_64 ?_
        refine z_top (nI_add (ed_d xs ys (i + 1) (j + 1)) (1)) ?_
        refine lv_istore hF.1 hF.2.1 d_E_leastCost_65 hl (by decide) rfl (fun ls hl => ?_)
        have hl : lv_has ls 7 [(5, .int (nI (ed_d xs ys (i + 1) (j + 1) + 1))), (0, .ref (ad (77))), (1, .ref (ad (k1))), (2, .int (nI (i))), (3, .ref (ad (k2))), (4, .int (nI (j)))] := hl
        refine lv_iconst (v := (nI (1))) hF.1 hF.2.1 d_E_leastCost_67 (by decide) ?_
        refine lv_aload_n hF.1 hF.2.1 d_E_leastCost_68 rfl (lv_at hl 1 rfl) ?_
        refine gf_E_11 hF hZ (77) (by omega) t1 rfl d_E_leastCost_69 ?_
        refine lv_iload_n hF.1 hF.2.1 d_E_leastCost_72 rfl (lv_at hl 3 rfl) ?_
        refine lv_iconst (v := (nI (1))) hF.1 hF.2.1 d_E_leastCost_73 (by decide) ?_
        refine lv_iadd hF.1 hF.2.1 d_E_leastCost_74 ?_
        refine z_top (nI_add (i) (1)) ?_
        refine z_mald hF hZ (77 + 1) (by omega) t2 (i + 1) (by omega) (by omega) (t2g (i + 1) (by omega)) d_E_leastCost_75 ?_
        refine lv_iload hF.1 hF.2.1 d_E_leastCost_76 (lv_at hl 5 rfl) ?_
        refine z_iald hF hZ (77 + 2 + (i + 1)) (by omega) (t3 (i + 1) (by omega)) (j) (by omega) (by omega) d_E_leastCost_78 ?_
        refine z_top (y := (nI (ed_d xs ys (i + 1) j))) m2 ?_
        refine lv_aload_n hF.1 hF.2.1 d_E_leastCost_79 rfl (lv_at hl 1 rfl) ?_
        refine gf_E_11 hF hZ (77) (by omega) t1 rfl d_E_leastCost_80 ?_
        refine lv_iload_n hF.1 hF.2.1 d_E_leastCost_83 rfl (lv_at hl 3 rfl) ?_
        refine z_mald hF hZ (77 + 1) (by omega) t2 (i) (by omega) (by omega) (t2g (i) (by omega)) d_E_leastCost_84 ?_
        refine lv_iload hF.1 hF.2.1 d_E_leastCost_85 (lv_at hl 5 rfl) ?_
        refine lv_iconst (v := (nI (1))) hF.1 hF.2.1 d_E_leastCost_87 (by decide) ?_
        refine lv_iadd hF.1 hF.2.1 d_E_leastCost_88 ?_
        refine z_top (nI_add (j) (1)) ?_
        refine z_iald hF hZ (77 + 2 + (i)) (by omega) (t3 (i) (by omega)) (j + 1) (by omega) (by omega) d_E_leastCost_89 ?_
        refine z_top (y := (nI (ed_d xs ys i (j + 1)))) m3 ?_
        refine va_mmin hF.1 hF.2.1 (hF.2.2.1.trans hl.1.symm) hF.2.2.2.1 (hF.2.2.2.2 _ ml_E_37) (hF.2.2.2.2 _ sm_Math_min) (hF.2.2.2.2 _ in_Math) (hF.2.2.2.2 _ cd_Math_min) (Nat.le_of_ble_eq_true rfl) (Nat.le_of_ble_eq_true rfl) (Nat.le_of_ble_eq_true rfl) (Nat.le_of_ble_eq_true rfl) d_E_leastCost_90 ?_
        refine z_top (y := (nI (min (ed_d xs ys (i + 1) j) (ed_d xs ys i (j + 1))))) (nmin (by omega) (by omega)) ?_
        refine lv_iadd hF.1 hF.2.1 d_E_leastCost_93 ?_
        refine z_top (nI_add (1) (min (ed_d xs ys (i + 1) j) (ed_d xs ys i (j + 1)))) ?_
        refine lv_istore hF.1 hF.2.1 d_E_leastCost_94 hl (by decide) rfl (fun ls hl => ?_)
        have hl : lv_has ls 7 [(6, .int (nI (1 + min (ed_d xs ys (i + 1) j) (ed_d xs ys i (j + 1))))), (5, .int (nI (ed_d xs ys (i + 1) (j + 1) + 1))), (0, .ref (ad (77))), (1, .ref (ad (k1))), (2, .int (nI (i))), (3, .ref (ad (k2))), (4, .int (nI (j)))] := hl
        refine lv_iload hF.1 hF.2.1 d_E_leastCost_96 (lv_at hl 1 rfl) ?_
        refine lv_iload hF.1 hF.2.1 d_E_leastCost_98 (lv_at hl 0 rfl) ?_
        refine va_mmin hF.1 hF.2.1 (hF.2.2.1.trans hl.1.symm) hF.2.2.2.1 (hF.2.2.2.2 _ ml_E_37) (hF.2.2.2.2 _ sm_Math_min) (hF.2.2.2.2 _ in_Math) (hF.2.2.2.2 _ cd_Math_min) (Nat.le_of_ble_eq_true rfl) (Nat.le_of_ble_eq_true rfl) (Nat.le_of_ble_eq_true rfl) (Nat.le_of_ble_eq_true rfl) d_E_leastCost_100 ?_
        refine z_top (y := (nI (ed_d xs ys i j))) ((nmin (by omega) (by omega)).trans (by rw [hs, if_neg u])) ?_
        exact z_iret hF hr hlocks hZ rfl ⟨rfl, rfl⟩ d_E_leastCost_103
      · have u : xs.getD i 0 = ys.getD j 0 := (cd_iff (by omega) (by omega)).mp ((iv_eq (wd_cd_26 g26 i) (wd_cd_26 h26 j)).mp u)
        refine lv_iconst (v := (nI (0))) hF.1 hF.2.1 d_E_leastCost_59 (by decide) ?_
        refine lv_goto (tgt := 64) hF.1 hF.2.1 d_E_leastCost_60 (by decide) ?_
        refine lv_iadd hF.1 hF.2.1 d_E_leastCost_64 ?_
        refine z_top (nI_add (ed_d xs ys (i + 1) (j + 1)) (0)) ?_
        refine lv_istore hF.1 hF.2.1 d_E_leastCost_65 hl (by decide) rfl (fun ls hl => ?_)
        have hl : lv_has ls 7 [(5, .int (nI (ed_d xs ys (i + 1) (j + 1) + 0))), (0, .ref (ad (77))), (1, .ref (ad (k1))), (2, .int (nI (i))), (3, .ref (ad (k2))), (4, .int (nI (j)))] := hl
        refine lv_iconst (v := (nI (1))) hF.1 hF.2.1 d_E_leastCost_67 (by decide) ?_
        refine lv_aload_n hF.1 hF.2.1 d_E_leastCost_68 rfl (lv_at hl 1 rfl) ?_
        refine gf_E_11 hF hZ (77) (by omega) t1 rfl d_E_leastCost_69 ?_
        refine lv_iload_n hF.1 hF.2.1 d_E_leastCost_72 rfl (lv_at hl 3 rfl) ?_
        refine lv_iconst (v := (nI (1))) hF.1 hF.2.1 d_E_leastCost_73 (by decide) ?_
        refine lv_iadd hF.1 hF.2.1 d_E_leastCost_74 ?_
        refine z_top (nI_add (i) (1)) ?_
        refine z_mald hF hZ (77 + 1) (by omega) t2 (i + 1) (by omega) (by omega) (t2g (i + 1) (by omega)) d_E_leastCost_75 ?_
        refine lv_iload hF.1 hF.2.1 d_E_leastCost_76 (lv_at hl 5 rfl) ?_
        refine z_iald hF hZ (77 + 2 + (i + 1)) (by omega) (t3 (i + 1) (by omega)) (j) (by omega) (by omega) d_E_leastCost_78 ?_
        refine z_top (y := (nI (ed_d xs ys (i + 1) j))) m2 ?_
        refine lv_aload_n hF.1 hF.2.1 d_E_leastCost_79 rfl (lv_at hl 1 rfl) ?_
        refine gf_E_11 hF hZ (77) (by omega) t1 rfl d_E_leastCost_80 ?_
        refine lv_iload_n hF.1 hF.2.1 d_E_leastCost_83 rfl (lv_at hl 3 rfl) ?_
        refine z_mald hF hZ (77 + 1) (by omega) t2 (i) (by omega) (by omega) (t2g (i) (by omega)) d_E_leastCost_84 ?_
        refine lv_iload hF.1 hF.2.1 d_E_leastCost_85 (lv_at hl 5 rfl) ?_
        refine lv_iconst (v := (nI (1))) hF.1 hF.2.1 d_E_leastCost_87 (by decide) ?_
        refine lv_iadd hF.1 hF.2.1 d_E_leastCost_88 ?_
        refine z_top (nI_add (j) (1)) ?_
        refine z_iald hF hZ (77 + 2 + (i)) (by omega) (t3 (i) (by omega)) (j + 1) (by omega) (by omega) d_E_leastCost_89 ?_
        refine z_top (y := (nI (ed_d xs ys i (j + 1)))) m3 ?_
        refine va_mmin hF.1 hF.2.1 (hF.2.2.1.trans hl.1.symm) hF.2.2.2.1 (hF.2.2.2.2 _ ml_E_37) (hF.2.2.2.2 _ sm_Math_min) (hF.2.2.2.2 _ in_Math) (hF.2.2.2.2 _ cd_Math_min) (Nat.le_of_ble_eq_true rfl) (Nat.le_of_ble_eq_true rfl) (Nat.le_of_ble_eq_true rfl) (Nat.le_of_ble_eq_true rfl) d_E_leastCost_90 ?_
        refine z_top (y := (nI (min (ed_d xs ys (i + 1) j) (ed_d xs ys i (j + 1))))) (nmin (by omega) (by omega)) ?_
        refine lv_iadd hF.1 hF.2.1 d_E_leastCost_93 ?_
        refine z_top (nI_add (1) (min (ed_d xs ys (i + 1) j) (ed_d xs ys i (j + 1)))) ?_
        refine lv_istore hF.1 hF.2.1 d_E_leastCost_94 hl (by decide) rfl (fun ls hl => ?_)
        have hl : lv_has ls 7 [(6, .int (nI (1 + min (ed_d xs ys (i + 1) j) (ed_d xs ys i (j + 1))))), (5, .int (nI (ed_d xs ys (i + 1) (j + 1) + 0))), (0, .ref (ad (77))), (1, .ref (ad (k1))), (2, .int (nI (i))), (3, .ref (ad (k2))), (4, .int (nI (j)))] := hl
        refine lv_iload hF.1 hF.2.1 d_E_leastCost_96 (lv_at hl 1 rfl) ?_
        refine lv_iload hF.1 hF.2.1 d_E_leastCost_98 (lv_at hl 0 rfl) ?_
        refine va_mmin hF.1 hF.2.1 (hF.2.2.1.trans hl.1.symm) hF.2.2.2.1 (hF.2.2.2.2 _ ml_E_37) (hF.2.2.2.2 _ sm_Math_min) (hF.2.2.2.2 _ in_Math) (hF.2.2.2.2 _ cd_Math_min) (Nat.le_of_ble_eq_true rfl) (Nat.le_of_ble_eq_true rfl) (Nat.le_of_ble_eq_true rfl) (Nat.le_of_ble_eq_true rfl) d_E_leastCost_100 ?_
        refine z_top (y := (nI (ed_d xs ys i j))) ((nmin (by omega) (by omega)).trans (by rw [hs, if_pos u])) ?_
        exact z_iret hF hr hlocks hZ rfl ⟨rfl, rfl⟩ d_E_leastCost_103
    · have r : j = ys.length := (nI_eq (by omega) (by omega)).mp r
      refine lv_aload_n hF.1 hF.2.1 d_E_leastCost_25 rfl (lv_at hl 1 rfl) ?_
      refine gf_E_16 hF hZ (k1) hk1 e1 rfl d_E_leastCost_26 ?_
      refine lv_iload_n hF.1 hF.2.1 d_E_leastCost_29 rfl (lv_at hl 2 rfl) ?_
      refine lv_isub hF.1 hF.2.1 d_E_leastCost_30 ?_
      refine z_top (pk_sub (show i ≤ xs.length by omega)) ?_
      exact z_iret hF hr hlocks hZ rfl ⟨rfl, by rw [ed_d_j r]⟩ d_E_leastCost_31
  · have q : i = xs.length := (nI_eq (by omega) (by omega)).mp q
    refine lv_aload_n hF.1 hF.2.1 d_E_leastCost_8 rfl (lv_at hl 3 rfl) ?_
    refine gf_E_16 hF hZ (k2) hk2 e3 rfl d_E_leastCost_9 ?_
    refine lv_iload hF.1 hF.2.1 d_E_leastCost_12 (lv_at hl 4 rfl) ?_
    refine lv_isub hF.1 hF.2.1 d_E_leastCost_14 ?_
    refine z_top (pk_sub (show j ≤ ys.length by omega)) ?_
    exact z_iret hF hr hlocks hZ rfl ⟨rfl, by rw [ed_d_i q]⟩ d_E_leastCost_15
set_option maxHeartbeats 4000000 in
set_option maxRecDepth 100000 in
theorem c_E_measure (l : Launch) {G : zG} {ad : Nat → Nat} {en : Nat → va_E} {N : Nat} {k1 a1 c1 : Nat} {xs : List Nat} (hk1 : k1 < N) (ha1 : a1 < N) (hn1 : k1 ≠ a1) (hc1 : c1 < 2 ^ 31) (g : pL G ad en k1 a1 c1 xs) {k2 a2 c2 : Nat} {ys : List Nat} (hk2 : k2 < N) (ha2 : a2 < N) (hn2 : k2 ≠ a2) (hc2 : c2 < 2 ^ 31) (h : pL G ad en k2 a2 c2 ys) (hx : xs.length ≤ 10) (hy : ys.length ≤ 8) (hN : 90 ≤ N) {M : Nat → Nat → Int32} (hT : pT G ad en 77 kE 9 M) (r1 : k1 < 77 ∨ 90 ≤ k1) (r2 : a1 < 77 ∨ 90 ≤ a1) (r3 : k2 < 77 ∨ 90 ≤ k2) (r4 : a2 < 77 ∨ 90 ≤ a2) : zMi l y_E_measure b_E_measure 5 .int 3 G ad en N [.ref (ad (77)), .ref (ad (k1)), .ref (ad (k2))] (fun v en1 => v = nI (ed_d xs ys 0 0) ∧ (∃ M1, pT G ad en1 77 kE 9 M1 ∧ ∀ a b, a ≤ xs.length → b ≤ ys.length → M1 a b = nI (ed_d xs ys a b)) ∧ ∀ r, r < 77 ∨ 90 ≤ r → en1 r = en r) := by
  refine z_met (by decide) (Nat.le_of_ble_eq_true rfl) ?_
  intro p e s m below meth c ls hF hr hlocks hnam hZ hl
  have hF : CallFix p m c b_E_measure 5 s ([.ref (ad (77)), .ref (ad (k1)), .ref (ad (k2))] : List Value).toArray zz R_E := hF
  have hl : lv_has ls 5 [(0, .ref (ad (77))), (1, .ref (ad (k1))), (2, .ref (ad (k2)))] := hl
  have inner : ∀ (q i : Nat) (M : Nat → Nat → Int32) (en1 : Nat → va_E) (H : Heap) (locs : List Loc) (ls : Array Slot), i ≤ xs.length → q ≤ ys.length + 1 → (pT G ad en1 77 kE 9 M) → (∀ r, r < 77 ∨ 90 ≤ r → en1 r = en r) → (∀ a b, i < a → a ≤ xs.length → b ≤ ys.length → M a b = nI (ed_d xs ys a b)) → (∀ b, q ≤ b → b ≤ ys.length → M i b = nI (ed_d xs ys i b)) → (∀ (M : Nat → Nat → Int32) (en1 : Nat → va_E) (H : Heap) (locs : List Loc) (ls : Array Slot), (pT G ad en1 77 kE 9 M) → (∀ r, r < 77 ∨ 90 ≤ r → en1 r = en r) → (∀ a b, i ≤ a → a ≤ xs.length → b ≤ ys.length → M a b = nI (ed_d xs ys a b)) → lv_has ls 5 [(4, .int (iv 0)), (3, .int (nI (i))), (0, .ref (ad (77))), (1, .ref (ad (k1))), (2, .ref (ad (k2)))] → zH G ad en1 N s H locs → W p l e (zR 3) s m ([.ref (ad (77)), .ref (ad (k1)), .ref (ad (k2))] : List Value).toArray below meth c H locs 0 0 (MQ below (zQi G ad N (fun v en1 => v = nI (ed_d xs ys 0 0) ∧ (∃ M1, pT G ad en1 77 kE 9 M1 ∧ ∀ a b, a ≤ xs.length → b ≤ ys.length → M1 a b = nI (ed_d xs ys a b)) ∧ ∀ r, r < 77 ∨ 90 ≤ r → en1 r = en r)) ([.ref (ad (77)), .ref (ad (k1)), .ref (ad (k2))] : List Value).toArray s 0 0 (zA G)) (F0 m 44 ls [])) → lv_has ls 5 [(4, .int (iv q)), (3, .int (nI (i))), (0, .ref (ad (77))), (1, .ref (ad (k1))), (2, .ref (ad (k2)))] → zH G ad en1 N s H locs → W p l e (zR 3) s m ([.ref (ad (77)), .ref (ad (k1)), .ref (ad (k2))] : List Value).toArray below meth c H locs 0 0 (MQ below (zQi G ad N (fun v en1 => v = nI (ed_d xs ys 0 0) ∧ (∃ M1, pT G ad en1 77 kE 9 M1 ∧ ∀ a b, a ≤ xs.length → b ≤ ys.length → M1 a b = nI (ed_d xs ys a b)) ∧ ∀ r, r < 77 ∨ 90 ≤ r → en1 r = en r)) ([.ref (ad (77)), .ref (ad (k1)), .ref (ad (k2))] : List Value).toArray s 0 0 (zA G)) (F0 m 15 ls []) := by
    intro q
    induction q with
    | zero =>
      intro i M en1 H locs ls hi hq hT hfr hM1 hM2 K hl hZ
      refine lv_iload hF.1 hF.2.1 d_E_measure_15 (lv_at hl 0 rfl) ?_
      refine lv_if_lt (tgt := 44) hF.1 hF.2.1 d_E_measure_17 (by decide) (fun _ => ?_) (fun h => absurd (show iv 0 < 0 by decide) h)
      refine K M en1 H locs ls hT hfr (fun a b ha hb hc => ?_) hl hZ
      by_cases z : a = i
      · subst z; exact hM2 b (Nat.zero_le _) hc
      · exact hM1 a b (by omega) hb hc
    | succ q ih =>
      intro i M en1 H locs ls hi hq hT hfr hM1 hM2 K hl hZ
      rw [iv_s] at hl
      have g0 := g.keep (hfr k1 r1) (hfr a1 r2)
      have h0 := h.keep (hfr k2 r3) (hfr a2 r4)
      have gg := g0
      obtain ⟨e1, g1, g26, f1, e2, g2⟩ := gg
      have hh := h0
      obtain ⟨e3, h1, h26, f2, e4, h2⟩ := hh
      have tt := hT
      obtain ⟨t1, ⟨tg, t2, t2g⟩, t3⟩ := tt
      refine lv_iload hF.1 hF.2.1 d_E_measure_15 (lv_at hl 0 rfl) ?_
      refine lv_if_lt (tgt := 44) hF.1 hF.2.1 d_E_measure_17 (by decide) (fun h => absurd h (nI_pos (by omega))) (fun _ => ?_)
      refine lv_aload_n hF.1 hF.2.1 d_E_measure_20 rfl (lv_at hl 2 rfl) ?_
      refine gf_E_11 hF hZ (77) (by omega) t1 rfl d_E_measure_21 ?_
      refine lv_iload_n hF.1 hF.2.1 d_E_measure_24 rfl (lv_at hl 1 rfl) ?_
      refine z_mald hF hZ (77 + 1) (by omega) t2 (i) (by omega) (by omega) (t2g (i) (by omega)) d_E_measure_25 ?_
      refine lv_iload hF.1 hF.2.1 d_E_measure_26 (lv_at hl 0 rfl) ?_
      refine lv_aload_n hF.1 hF.2.1 d_E_measure_28 rfl (lv_at hl 2 rfl) ?_
      refine lv_aload_n hF.1 hF.2.1 d_E_measure_29 rfl (lv_at hl 3 rfl) ?_
      refine lv_iload_n hF.1 hF.2.1 d_E_measure_30 rfl (lv_at hl 1 rfl) ?_
      refine lv_aload_n hF.1 hF.2.1 d_E_measure_31 rfl (lv_at hl 4 rfl) ?_
      refine lv_iload hF.1 hF.2.1 d_E_measure_32 (lv_at hl 0 rfl) ?_
      refine z_calli hZ (z_run cw_E_22 hF hZ (77) (c_E_leastCost l hk1 ha1 hn1 hc1 g0 hk2 ha2 hn2 hc2 h0 hx hy hN hT (i := i) (j := q) hi (by omega) (fun z1 z2 => ⟨hM1 _ _ (by omega) (by omega) (by omega), hM1 _ _ (by omega) (by omega) (by omega), hM2 _ (by omega) (by omega)⟩)) (by decide) (by omega) t1 rfl rfl hl.1 rfl (Nat.le_of_ble_eq_true rfl) d_E_measure_34) (fun v enq H locs hp hZ => ?_)
      obtain ⟨he, hv⟩ := hp
      subst hv
      have hZ := hZ.to he
      refine z_iast hF hZ (77 + 2 + (i)) (by omega) (t3 (i) (by omega)) (q) (by omega) (by omega) d_E_measure_37 (fun H locs hZ => ?_)
      obtain ⟨ze1, hn2⟩ : ∃ z, z = va_up en1 (77 + 2 + (i)) (.inl (zI G, 9, .inl (upd (M (i)) (q) (nI (ed_d xs ys i q))))) := ⟨_, rfl⟩
      have hZ : zH G ad ze1 N s H locs := hZ.to hn2.symm
      have ff3 : ze1 (k1) = .inr (kL, [.ref (ad (a1)), .int (nI (xs.length))]) := by rw [hn2, va_up_ne _ _ (by omega)]; exact e1
      have ff4 : ze1 (a1) = .inl (zI G, c1, .inl (f1)) := by rw [hn2, va_up_ne _ _ (by omega)]; exact e2
      have ff5 : ze1 (k2) = .inr (kL, [.ref (ad (a2)), .int (nI (ys.length))]) := by rw [hn2, va_up_ne _ _ (by omega)]; exact e3
      have ff6 : ze1 (a2) = .inl (zI G, c2, .inl (f2)) := by rw [hn2, va_up_ne _ _ (by omega)]; exact e4
      have ff7 : ze1 (77) = .inr (kE, [.ref (ad (77 + 1))]) := by rw [hn2, va_up_ne _ _ (by omega)]; exact t1
      have ff8 : ze1 (77 + 1) = .inl (zM G, 11, z_refs tg) := by rw [hn2, va_up_ne _ _ (by omega)]; exact t2
      have ff9 : ze1 (77 + 2 + (i)) = .inl (zI G, 9, .inl (upd (M (i)) (q) (nI (ed_d xs ys i q)))) := by rw [hn2]; exact va_up_self _ _ _
      have hT3 : pT G ad ze1 77 kE 9 (tset M i q (nI (ed_d xs ys i q))) := by rw [hn2]; exact hT.set (by omega)
      refine lv_iinc (k := 0) (v := (iv q)) hF.1 hF.2.1 d_E_measure_38 hl rfl (iinc_v q) (by decide) rfl (fun ls hl => ?_)
      have hl : lv_has ls 5 [(4, .int (iv q)), (3, .int (nI (i))), (0, .ref (ad (77))), (1, .ref (ad (k1))), (2, .ref (ad (k2)))] := hl
      refine lv_goto (tgt := 15) hF.1 hF.2.1 d_E_measure_41 (by decide) ?_
      refine ih i (tset M i q (nI (ed_d xs ys i q))) ze1 H locs ls hi (by omega) hT3 (fun r hr => ?_) (fun a b ha hb hc => ?_) (fun b hb hc => ?_) K hl hZ
      · rw [hn2, va_up_ne _ _ (by omega)]; exact hfr r hr
      · unfold tset; rw [if_neg (by omega)]; exact hM1 a b ha hb hc
      · unfold tset
        by_cases y : b = q
        · subst y; rw [if_pos ⟨rfl, rfl⟩]
        · rw [if_neg (fun u => y u.2)]; exact hM2 b (by omega) hc
  have outer : ∀ (q : Nat) (M : Nat → Nat → Int32) (en1 : Nat → va_E) (H : Heap) (locs : List Loc) (ls : Array Slot), q ≤ xs.length + 1 → (pT G ad en1 77 kE 9 M) → (∀ r, r < 77 ∨ 90 ≤ r → en1 r = en r) → (∀ a b, q ≤ a → a ≤ xs.length → b ≤ ys.length → M a b = nI (ed_d xs ys a b)) → lv_has ls 5 [(3, .int (iv q)), (0, .ref (ad (77))), (1, .ref (ad (k1))), (2, .ref (ad (k2)))] → zH G ad en1 N s H locs → W p l e (zR 3) s m ([.ref (ad (77)), .ref (ad (k1)), .ref (ad (k2))] : List Value).toArray below meth c H locs 0 0 (MQ below (zQi G ad N (fun v en1 => v = nI (ed_d xs ys 0 0) ∧ (∃ M1, pT G ad en1 77 kE 9 M1 ∧ ∀ a b, a ≤ xs.length → b ≤ ys.length → M1 a b = nI (ed_d xs ys a b)) ∧ ∀ r, r < 77 ∨ 90 ≤ r → en1 r = en r)) ([.ref (ad (77)), .ref (ad (k1)), .ref (ad (k2))] : List Value).toArray s 0 0 (zA G)) (F0 m 5 ls []) := by
    intro q
    induction q with
    | zero =>
      intro M en1 H locs ls hq hT hfr hM hl hZ
      have g0 := g.keep (hfr k1 r1) (hfr a1 r2)
      have h0 := h.keep (hfr k2 r3) (hfr a2 r4)
      have gg := g0
      obtain ⟨e1, g1, g26, f1, e2, g2⟩ := gg
      have hh := h0
      obtain ⟨e3, h1, h26, f2, e4, h2⟩ := hh
      have tt := hT
      obtain ⟨t1, ⟨tg, t2, t2g⟩, t3⟩ := tt
      refine lv_iload_n hF.1 hF.2.1 d_E_measure_5 rfl (lv_at hl 0 rfl) ?_
      refine lv_if_lt (tgt := 50) hF.1 hF.2.1 d_E_measure_6 (by decide) (fun _ => ?_) (fun h => absurd (show iv 0 < 0 by decide) h)
      refine lv_aload_n hF.1 hF.2.1 d_E_measure_50 rfl (lv_at hl 1 rfl) ?_
      refine gf_E_11 hF hZ (77) (by omega) t1 rfl d_E_measure_51 ?_
      refine lv_iconst (v := (nI (0))) hF.1 hF.2.1 d_E_measure_54 (by decide) ?_
      refine z_mald hF hZ (77 + 1) (by omega) t2 (0) (by omega) (by omega) (t2g (0) (by omega)) d_E_measure_55 ?_
      refine lv_iconst (v := (nI (0))) hF.1 hF.2.1 d_E_measure_56 (by decide) ?_
      refine z_iald hF hZ (77 + 2 + (0)) (by omega) (t3 (0) (by omega)) (0) (by omega) (by omega) d_E_measure_57 ?_
      exact z_iret hF hr hlocks hZ rfl ⟨hM 0 0 (by omega) (by omega) (by omega), ⟨M, hT, fun a b ha hb => hM a b (Nat.zero_le _) ha hb⟩, hfr⟩ d_E_measure_58
    | succ q ih =>
      intro M en1 H locs ls hq hT hfr hM hl hZ
      rw [iv_s] at hl
      have g0 := g.keep (hfr k1 r1) (hfr a1 r2)
      have h0 := h.keep (hfr k2 r3) (hfr a2 r4)
      have gg := g0
      obtain ⟨e1, g1, g26, f1, e2, g2⟩ := gg
      have hh := h0
      obtain ⟨e3, h1, h26, f2, e4, h2⟩ := hh
      have tt := hT
      obtain ⟨t1, ⟨tg, t2, t2g⟩, t3⟩ := tt
      refine lv_iload_n hF.1 hF.2.1 d_E_measure_5 rfl (lv_at hl 0 rfl) ?_
      refine lv_if_lt (tgt := 50) hF.1 hF.2.1 d_E_measure_6 (by decide) (fun h => absurd h (nI_pos (by omega))) (fun _ => ?_)
      refine lv_aload_n hF.1 hF.2.1 d_E_measure_9 rfl (lv_at hl 3 rfl) ?_
      refine gf_E_16 hF hZ (k2) hk2 e3 rfl d_E_measure_10 ?_
      refine lv_istore hF.1 hF.2.1 d_E_measure_13 hl (by decide) rfl (fun ls hl => ?_)
      have hl : lv_has ls 5 [(4, .int (nI (ys.length))), (3, .int (nI (q))), (0, .ref (ad (77))), (1, .ref (ad (k1))), (2, .ref (ad (k2)))] := hl
      refine inner (ys.length + 1) q M en1 H locs ls (by omega) (by omega) hT hfr (fun a b ha => hM a b ha) (fun b hb hc => absurd hc (by omega)) (fun M3 en3 H locs ls hT hfr hM3 hl hZ => ?_) (by rw [iv_s]; exact hl) hZ
      refine lv_iinc (k := 1) (v := (iv q)) hF.1 hF.2.1 d_E_measure_44 hl rfl (iinc_v q) (by decide) rfl (fun ls hl => ?_)
      have hl : lv_has ls 5 [(3, .int (iv q)), (4, .int (iv 0)), (0, .ref (ad (77))), (1, .ref (ad (k1))), (2, .ref (ad (k2)))] := hl
      refine lv_goto (tgt := 5) hF.1 hF.2.1 d_E_measure_47 (by decide) ?_
      have hl : lv_has ls 5 [(3, .int (iv q)), (0, .ref (ad (77))), (1, .ref (ad (k1))), (2, .ref (ad (k2)))] := lv_sub hl [0, 2, 3, 4] rfl
      exact ih M3 en3 H locs ls (by omega) hT hfr hM3 hl hZ
  have gg := g
  obtain ⟨e1, g1, g26, f1, e2, g2⟩ := gg
  have hh := h
  obtain ⟨e3, h1, h26, f2, e4, h2⟩ := hh
  refine lv_aload_n hF.1 hF.2.1 d_E_measure_0 rfl (lv_at hl 1 rfl) ?_
  refine gf_E_16 hF hZ (k1) hk1 e1 rfl d_E_measure_1 ?_
  refine lv_istore_n hF.1 hF.2.1 d_E_measure_4 rfl hl (by decide) rfl (fun ls hl => ?_)
  have hl : lv_has ls 5 [(3, .int (nI (xs.length))), (0, .ref (ad (77))), (1, .ref (ad (k1))), (2, .ref (ad (k2)))] := hl
  exact outer (xs.length + 1) M en _ _ ls (by omega) hT (fun _ _ => rfl) (fun a b ha hb => absurd hb (by omega)) (by rw [iv_s]; exact hl) hZ
set_option maxHeartbeats 4000000 in
set_option maxRecDepth 100000 in
theorem c_E_firstEdit (l : Launch) {G : zG} {ad : Nat → Nat} {en : Nat → va_E} {N : Nat} {k1 a1 c1 : Nat} {xs : List Nat} (hk1 : k1 < N) (ha1 : a1 < N) (hn1 : k1 ≠ a1) (hc1 : c1 < 2 ^ 31) (g : pL G ad en k1 a1 c1 xs) {k2 a2 c2 : Nat} {ys : List Nat} (hk2 : k2 < N) (ha2 : a2 < N) (hn2 : k2 ≠ a2) (hc2 : c2 < 2 ^ 31) (h : pL G ad en k2 a2 c2 ys) (hx : xs.length ≤ 10) (hy : ys.length ≤ 8) (hN : 90 ≤ N) {M : Nat → Nat → Int32} (hT : pT G ad en 77 kE 9 M) {i j : Nat} (hi : i ≤ xs.length) (hj : j ≤ ys.length) (hM : ∀ a b, a ≤ xs.length → b ≤ ys.length → M a b = nI (ed_d xs ys a b)) : zMi l y_E_firstEdit b_E_firstEdit 6 .int 2 G ad en N [.ref (ad (77)), .ref (ad (k1)), .int (nI (i)), .ref (ad (k2)), .int (nI (j))] (fun v en1 => en1 = en ∧ v = nI (ed_f xs ys i j)) := by
  have gg := g
  obtain ⟨e1, g1, g26, f1, e2, g2⟩ := gg
  have hh := h
  obtain ⟨e3, h1, h26, f2, e4, h2⟩ := hh
  have tt := hT
  obtain ⟨t1, ⟨tg, t2, t2g⟩, t3⟩ := tt
  refine z_met (by decide) (Nat.le_of_ble_eq_true rfl) ?_
  intro p e s m below meth c ls hF hr hlocks hnam hZ hl
  have hF : CallFix p m c b_E_firstEdit 6 s ([.ref (ad (77)), .ref (ad (k1)), .int (nI (i)), .ref (ad (k2)), .int (nI (j))] : List Value).toArray zz R_E := hF
  have hl : lv_has ls 6 [(0, .ref (ad (77))), (1, .ref (ad (k1))), (2, .int (nI (i))), (3, .ref (ad (k2))), (4, .int (nI (j)))] := hl
  refine lv_iload_n hF.1 hF.2.1 d_E_firstEdit_0 rfl (lv_at hl 2 rfl) ?_
  refine lv_aload_n hF.1 hF.2.1 d_E_firstEdit_1 rfl (lv_at hl 1 rfl) ?_
  refine gf_E_16 hF hZ (k1) hk1 e1 rfl d_E_firstEdit_2 ?_
  refine lv_icmp_ne (tgt := 10) hF.1 hF.2.1 d_E_firstEdit_5 (by decide) (fun q => ?_) (fun q => ?_)
  · have q : ¬ i = xs.length := fun z => q (by rw [z])
    refine lv_iload hF.1 hF.2.1 d_E_firstEdit_10 (lv_at hl 4 rfl) ?_
    refine lv_aload_n hF.1 hF.2.1 d_E_firstEdit_12 rfl (lv_at hl 3 rfl) ?_
    refine gf_E_16 hF hZ (k2) hk2 e3 rfl d_E_firstEdit_13 ?_
    refine lv_icmp_ne (tgt := 21) hF.1 hF.2.1 d_E_firstEdit_16 (by decide) (fun r => ?_) (fun r => ?_)
    · have r : ¬ j = ys.length := fun z => r (by rw [z])
      have b0 := ed_18 (xs := xs) (ys := ys) (i := i) (j := j) (by omega) (by omega) hx hy
      have b1 := ed_18 (xs := xs) (ys := ys) (i := i + 1) (j := j + 1) (by omega) (by omega) hx hy
      have b2 := ed_18 (xs := xs) (ys := ys) (i := i + 1) (j := j) (by omega) (by omega) hx hy
      have m0 := hM i j (by omega) (by omega)
      have m1 := hM (i + 1) (j + 1) (by omega) (by omega)
      have m2 := hM (i + 1) j (by omega) (by omega)
      refine lv_aload_n hF.1 hF.2.1 d_E_firstEdit_21 rfl (lv_at hl 1 rfl) ?_
      refine lv_iload_n hF.1 hF.2.1 d_E_firstEdit_22 rfl (lv_at hl 2 rfl) ?_
      refine z_calli hZ (z_run cw_E_33 hF hZ (k1) (c_L_atN l hk1 ha1 hn1 hc1 g (j := i) (by omega)) (by decide) hk1 e1 rfl rfl hl.1 rfl (Nat.le_of_ble_eq_true rfl) d_E_firstEdit_23) (fun v enq H locs hp hZ => ?_)
      obtain ⟨he, hv⟩ := hp
      subst hv
      have hZ := hZ.to he
      refine lv_aload_n hF.1 hF.2.1 d_E_firstEdit_26 rfl (lv_at hl 3 rfl) ?_
      refine lv_iload hF.1 hF.2.1 d_E_firstEdit_27 (lv_at hl 4 rfl) ?_
      refine z_calli hZ (z_run cw_E_33 hF hZ (k2) (c_L_atN l hk2 ha2 hn2 hc2 h (j := j) (by omega)) (by decide) hk2 e3 rfl rfl hl.1 rfl (Nat.le_of_ble_eq_true rfl) d_E_firstEdit_29) (fun v enq H locs hp hZ => ?_)
      obtain ⟨he, hv⟩ := hp
      subst hv
      have hZ := hZ.to he
      refine lv_icmp_ne (tgt := 39) hF.1 hF.2.1 d_E_firstEdit_32 (by decide) (fun u => ?_) (fun u => ?_)
      · have u : ¬ xs.getD i 0 = ys.getD j 0 := fun z => u (by rw [(cd_iff (by omega) (by omega)).mpr z])
        refine lv_iconst (v := (nI (0))) hF.1 hF.2.1 d_E_firstEdit_39 (by decide) ?_
        refine lv_istore hF.1 hF.2.1 d_E_firstEdit_40 hl (by decide) rfl (fun ls hl => ?_)
        have hl : lv_has ls 6 [(5, .int (nI (0))), (0, .ref (ad (77))), (1, .ref (ad (k1))), (2, .int (nI (i))), (3, .ref (ad (k2))), (4, .int (nI (j)))] := hl
        refine lv_iload hF.1 hF.2.1 d_E_firstEdit_42 (lv_at hl 0 rfl) ?_
        refine lv_if_eq (tgt := 74) hF.1 hF.2.1 d_E_firstEdit_44 (by decide) (fun _ => ?_) (fun h => absurd (show nI 0 = 0 by decide) h)
        refine lv_iload hF.1 hF.2.1 d_E_firstEdit_74 (lv_at hl 0 rfl) ?_
        refine lv_if_ne (tgt := 108) hF.1 hF.2.1 d_E_firstEdit_76 (by decide) (fun h => absurd (show nI 0 = 0 by decide) h) (fun _ => ?_)
        refine lv_aload_n hF.1 hF.2.1 d_E_firstEdit_79 rfl (lv_at hl 1 rfl) ?_
        refine gf_E_11 hF hZ (77) (by omega) t1 rfl d_E_firstEdit_80 ?_
        refine lv_iload_n hF.1 hF.2.1 d_E_firstEdit_83 rfl (lv_at hl 3 rfl) ?_
        refine z_mald hF hZ (77 + 1) (by omega) t2 (i) (by omega) (by omega) (t2g (i) (by omega)) d_E_firstEdit_84 ?_
        refine lv_iload hF.1 hF.2.1 d_E_firstEdit_85 (lv_at hl 5 rfl) ?_
        refine z_iald hF hZ (77 + 2 + (i)) (by omega) (t3 (i) (by omega)) (j) (by omega) (by omega) d_E_firstEdit_87 ?_
        refine z_top (y := (nI (ed_d xs ys i j))) m0 ?_
        refine lv_iconst (v := (nI (1))) hF.1 hF.2.1 d_E_firstEdit_88 (by decide) ?_
        refine lv_aload_n hF.1 hF.2.1 d_E_firstEdit_89 rfl (lv_at hl 1 rfl) ?_
        refine gf_E_11 hF hZ (77) (by omega) t1 rfl d_E_firstEdit_90 ?_
        refine lv_iload_n hF.1 hF.2.1 d_E_firstEdit_93 rfl (lv_at hl 3 rfl) ?_
        refine lv_iconst (v := (nI (1))) hF.1 hF.2.1 d_E_firstEdit_94 (by decide) ?_
        refine lv_iadd hF.1 hF.2.1 d_E_firstEdit_95 ?_
        refine z_top (nI_add (i) (1)) ?_
        refine z_mald hF hZ (77 + 1) (by omega) t2 (i + 1) (by omega) (by omega) (t2g (i + 1) (by omega)) d_E_firstEdit_96 ?_
        refine lv_iload hF.1 hF.2.1 d_E_firstEdit_97 (lv_at hl 5 rfl) ?_
        refine lv_iconst (v := (nI (1))) hF.1 hF.2.1 d_E_firstEdit_99 (by decide) ?_
        refine lv_iadd hF.1 hF.2.1 d_E_firstEdit_100 ?_
        refine z_top (nI_add (j) (1)) ?_
        refine z_iald hF hZ (77 + 2 + (i + 1)) (by omega) (t3 (i + 1) (by omega)) (j + 1) (by omega) (by omega) d_E_firstEdit_101 ?_
        refine z_top (y := (nI (ed_d xs ys (i + 1) (j + 1)))) m1 ?_
        refine lv_iadd hF.1 hF.2.1 d_E_firstEdit_102 ?_
        refine z_top (nI_add (1) (ed_d xs ys (i + 1) (j + 1))) ?_
        refine lv_icmp_ne (tgt := 108) hF.1 hF.2.1 d_E_firstEdit_103 (by decide) (fun s1 => ?_) (fun s1 => ?_)
        · have s1 : ¬ ed_d xs ys i j = 1 + ed_d xs ys (i + 1) (j + 1) := fun z => s1 (by rw [z])
          refine lv_aload_n hF.1 hF.2.1 d_E_firstEdit_108 rfl (lv_at hl 1 rfl) ?_
          refine gf_E_11 hF hZ (77) (by omega) t1 rfl d_E_firstEdit_109 ?_
          refine lv_iload_n hF.1 hF.2.1 d_E_firstEdit_112 rfl (lv_at hl 3 rfl) ?_
          refine z_mald hF hZ (77 + 1) (by omega) t2 (i) (by omega) (by omega) (t2g (i) (by omega)) d_E_firstEdit_113 ?_
          refine lv_iload hF.1 hF.2.1 d_E_firstEdit_114 (lv_at hl 5 rfl) ?_
          refine z_iald hF hZ (77 + 2 + (i)) (by omega) (t3 (i) (by omega)) (j) (by omega) (by omega) d_E_firstEdit_116 ?_
          refine z_top (y := (nI (ed_d xs ys i j))) m0 ?_
          refine lv_iconst (v := (nI (1))) hF.1 hF.2.1 d_E_firstEdit_117 (by decide) ?_
          refine lv_aload_n hF.1 hF.2.1 d_E_firstEdit_118 rfl (lv_at hl 1 rfl) ?_
          refine gf_E_11 hF hZ (77) (by omega) t1 rfl d_E_firstEdit_119 ?_
          refine lv_iload_n hF.1 hF.2.1 d_E_firstEdit_122 rfl (lv_at hl 3 rfl) ?_
          refine lv_iconst (v := (nI (1))) hF.1 hF.2.1 d_E_firstEdit_123 (by decide) ?_
          refine lv_iadd hF.1 hF.2.1 d_E_firstEdit_124 ?_
          refine z_top (nI_add (i) (1)) ?_
          refine z_mald hF hZ (77 + 1) (by omega) t2 (i + 1) (by omega) (by omega) (t2g (i + 1) (by omega)) d_E_firstEdit_125 ?_
          refine lv_iload hF.1 hF.2.1 d_E_firstEdit_126 (lv_at hl 5 rfl) ?_
          refine z_iald hF hZ (77 + 2 + (i + 1)) (by omega) (t3 (i + 1) (by omega)) (j) (by omega) (by omega) d_E_firstEdit_128 ?_
          refine z_top (y := (nI (ed_d xs ys (i + 1) j))) m2 ?_
          refine lv_iadd hF.1 hF.2.1 d_E_firstEdit_129 ?_
          refine z_top (nI_add (1) (ed_d xs ys (i + 1) j)) ?_
          refine lv_icmp_ne (tgt := 137) hF.1 hF.2.1 d_E_firstEdit_130 (by decide) (fun v => ?_) (fun v => ?_)
          · have v : ¬ ed_d xs ys i j = 1 + ed_d xs ys (i + 1) j := fun z => v (by rw [z])
            refine lv_iconst (v := (nI (3))) hF.1 hF.2.1 d_E_firstEdit_137 (by decide) ?_
            exact z_iret hF hr hlocks hZ rfl ⟨rfl, by unfold ed_f; rw [if_neg q, if_neg r, if_neg (fun z => u z.1), if_neg (fun z => s1 z.2), if_neg v]⟩ d_E_firstEdit_138
          · have v := (nI_eq (by omega) (by omega)).mp v
            refine lv_iconst (v := (nI (2))) hF.1 hF.2.1 d_E_firstEdit_133 (by decide) ?_
            refine lv_goto (tgt := 138) hF.1 hF.2.1 d_E_firstEdit_134 (by decide) ?_
            exact z_iret hF hr hlocks hZ rfl ⟨rfl, by unfold ed_f; rw [if_neg q, if_neg r, if_neg (fun z => u z.1), if_neg (fun z => s1 z.2), if_pos v]⟩ d_E_firstEdit_138
        · have s1 := (nI_eq (by omega) (by omega)).mp s1
          refine lv_iconst (v := (nI (1))) hF.1 hF.2.1 d_E_firstEdit_106 (by decide) ?_
          exact z_iret hF hr hlocks hZ rfl ⟨rfl, by unfold ed_f; rw [if_neg q, if_neg r, if_neg (fun z => u z.1), if_pos ⟨u, s1⟩]⟩ d_E_firstEdit_107
      · have u : xs.getD i 0 = ys.getD j 0 := (cd_iff (by omega) (by omega)).mp ((iv_eq (wd_cd_26 g26 i) (wd_cd_26 h26 j)).mp u)
        refine lv_iconst (v := (nI (1))) hF.1 hF.2.1 d_E_firstEdit_35 (by decide) ?_
        refine lv_goto (tgt := 40) hF.1 hF.2.1 d_E_firstEdit_36 (by decide) ?_
        refine lv_istore hF.1 hF.2.1 d_E_firstEdit_40 hl (by decide) rfl (fun ls hl => ?_)
        have hl : lv_has ls 6 [(5, .int (nI (1))), (0, .ref (ad (77))), (1, .ref (ad (k1))), (2, .int (nI (i))), (3, .ref (ad (k2))), (4, .int (nI (j)))] := hl
        refine lv_iload hF.1 hF.2.1 d_E_firstEdit_42 (lv_at hl 0 rfl) ?_
        refine lv_if_eq (tgt := 74) hF.1 hF.2.1 d_E_firstEdit_44 (by decide) (fun h => absurd h (show ¬ nI 1 = 0 by decide)) (fun _ => ?_)
        refine lv_aload_n hF.1 hF.2.1 d_E_firstEdit_47 rfl (lv_at hl 1 rfl) ?_
        refine gf_E_11 hF hZ (77) (by omega) t1 rfl d_E_firstEdit_48 ?_
        refine lv_iload_n hF.1 hF.2.1 d_E_firstEdit_51 rfl (lv_at hl 3 rfl) ?_
        refine z_mald hF hZ (77 + 1) (by omega) t2 (i) (by omega) (by omega) (t2g (i) (by omega)) d_E_firstEdit_52 ?_
        refine lv_iload hF.1 hF.2.1 d_E_firstEdit_53 (lv_at hl 5 rfl) ?_
        refine z_iald hF hZ (77 + 2 + (i)) (by omega) (t3 (i) (by omega)) (j) (by omega) (by omega) d_E_firstEdit_55 ?_
        refine z_top (y := (nI (ed_d xs ys i j))) m0 ?_
        refine lv_aload_n hF.1 hF.2.1 d_E_firstEdit_56 rfl (lv_at hl 1 rfl) ?_
        refine gf_E_11 hF hZ (77) (by omega) t1 rfl d_E_firstEdit_57 ?_
        refine lv_iload_n hF.1 hF.2.1 d_E_firstEdit_60 rfl (lv_at hl 3 rfl) ?_
        refine lv_iconst (v := (nI (1))) hF.1 hF.2.1 d_E_firstEdit_61 (by decide) ?_
        refine lv_iadd hF.1 hF.2.1 d_E_firstEdit_62 ?_
        refine z_top (nI_add (i) (1)) ?_
        refine z_mald hF hZ (77 + 1) (by omega) t2 (i + 1) (by omega) (by omega) (t2g (i + 1) (by omega)) d_E_firstEdit_63 ?_
        refine lv_iload hF.1 hF.2.1 d_E_firstEdit_64 (lv_at hl 5 rfl) ?_
        refine lv_iconst (v := (nI (1))) hF.1 hF.2.1 d_E_firstEdit_66 (by decide) ?_
        refine lv_iadd hF.1 hF.2.1 d_E_firstEdit_67 ?_
        refine z_top (nI_add (j) (1)) ?_
        refine z_iald hF hZ (77 + 2 + (i + 1)) (by omega) (t3 (i + 1) (by omega)) (j + 1) (by omega) (by omega) d_E_firstEdit_68 ?_
        refine z_top (y := (nI (ed_d xs ys (i + 1) (j + 1)))) m1 ?_
        refine lv_icmp_ne (tgt := 74) hF.1 hF.2.1 d_E_firstEdit_69 (by decide) (fun s1 => ?_) (fun s1 => ?_)
        · have s1 : ¬ ed_d xs ys i j = ed_d xs ys (i + 1) (j + 1) := fun z => s1 (by rw [z])
          refine lv_iload hF.1 hF.2.1 d_E_firstEdit_74 (lv_at hl 0 rfl) ?_
          refine lv_if_ne (tgt := 108) hF.1 hF.2.1 d_E_firstEdit_76 (by decide) (fun _ => ?_) (fun h => absurd h (show ¬ nI 1 = 0 by decide))
          refine lv_aload_n hF.1 hF.2.1 d_E_firstEdit_108 rfl (lv_at hl 1 rfl) ?_
          refine gf_E_11 hF hZ (77) (by omega) t1 rfl d_E_firstEdit_109 ?_
          refine lv_iload_n hF.1 hF.2.1 d_E_firstEdit_112 rfl (lv_at hl 3 rfl) ?_
          refine z_mald hF hZ (77 + 1) (by omega) t2 (i) (by omega) (by omega) (t2g (i) (by omega)) d_E_firstEdit_113 ?_
          refine lv_iload hF.1 hF.2.1 d_E_firstEdit_114 (lv_at hl 5 rfl) ?_
          refine z_iald hF hZ (77 + 2 + (i)) (by omega) (t3 (i) (by omega)) (j) (by omega) (by omega) d_E_firstEdit_116 ?_
          refine z_top (y := (nI (ed_d xs ys i j))) m0 ?_
          refine lv_iconst (v := (nI (1))) hF.1 hF.2.1 d_E_firstEdit_117 (by decide) ?_
          refine lv_aload_n hF.1 hF.2.1 d_E_firstEdit_118 rfl (lv_at hl 1 rfl) ?_
          refine gf_E_11 hF hZ (77) (by omega) t1 rfl d_E_firstEdit_119 ?_
          refine lv_iload_n hF.1 hF.2.1 d_E_firstEdit_122 rfl (lv_at hl 3 rfl) ?_
          refine lv_iconst (v := (nI (1))) hF.1 hF.2.1 d_E_firstEdit_123 (by decide) ?_
          refine lv_iadd hF.1 hF.2.1 d_E_firstEdit_124 ?_
          refine z_top (nI_add (i) (1)) ?_
          refine z_mald hF hZ (77 + 1) (by omega) t2 (i + 1) (by omega) (by omega) (t2g (i + 1) (by omega)) d_E_firstEdit_125 ?_
          refine lv_iload hF.1 hF.2.1 d_E_firstEdit_126 (lv_at hl 5 rfl) ?_
          refine z_iald hF hZ (77 + 2 + (i + 1)) (by omega) (t3 (i + 1) (by omega)) (j) (by omega) (by omega) d_E_firstEdit_128 ?_
          refine z_top (y := (nI (ed_d xs ys (i + 1) j))) m2 ?_
          refine lv_iadd hF.1 hF.2.1 d_E_firstEdit_129 ?_
          refine z_top (nI_add (1) (ed_d xs ys (i + 1) j)) ?_
          refine lv_icmp_ne (tgt := 137) hF.1 hF.2.1 d_E_firstEdit_130 (by decide) (fun v => ?_) (fun v => ?_)
          · have v : ¬ ed_d xs ys i j = 1 + ed_d xs ys (i + 1) j := fun z => v (by rw [z])
            refine lv_iconst (v := (nI (3))) hF.1 hF.2.1 d_E_firstEdit_137 (by decide) ?_
            exact z_iret hF hr hlocks hZ rfl ⟨rfl, by unfold ed_f; rw [if_neg q, if_neg r, if_neg (fun z => s1 z.2), if_neg (fun z => z.1 u), if_neg v]⟩ d_E_firstEdit_138
          · have v := (nI_eq (by omega) (by omega)).mp v
            refine lv_iconst (v := (nI (2))) hF.1 hF.2.1 d_E_firstEdit_133 (by decide) ?_
            refine lv_goto (tgt := 138) hF.1 hF.2.1 d_E_firstEdit_134 (by decide) ?_
            exact z_iret hF hr hlocks hZ rfl ⟨rfl, by unfold ed_f; rw [if_neg q, if_neg r, if_neg (fun z => s1 z.2), if_neg (fun z => z.1 u), if_pos v]⟩ d_E_firstEdit_138
        · have s1 := (nI_eq (by omega) (by omega)).mp s1
          refine lv_iconst (v := (nI (0))) hF.1 hF.2.1 d_E_firstEdit_72 (by decide) ?_
          exact z_iret hF hr hlocks hZ rfl ⟨rfl, by unfold ed_f; rw [if_neg q, if_neg r, if_pos ⟨u, s1⟩]⟩ d_E_firstEdit_73
    · have r : j = ys.length := (nI_eq (by omega) (by omega)).mp r
      refine lv_iconst (v := (nI (2))) hF.1 hF.2.1 d_E_firstEdit_19 (by decide) ?_
      exact z_iret hF hr hlocks hZ rfl ⟨rfl, by unfold ed_f; rw [if_neg q, if_pos r]⟩ d_E_firstEdit_20
  · have q : i = xs.length := (nI_eq (by omega) (by omega)).mp q
    refine lv_iconst (v := (nI (3))) hF.1 hF.2.1 d_E_firstEdit_8 (by decide) ?_
    exact z_iret hF hr hlocks hZ rfl ⟨rfl, by unfold ed_f; rw [if_pos q]⟩ d_E_firstEdit_9
/-- the edit at a place that is an int -/
def eav (xs ys : List Nat) (p : Int32) : Nat := if p < 0 then 0 else ed_at xs ys p.toNatClampNeg
theorem eav_0 {xs ys : List Nat} {p : Int32} {k : Nat} (hk : k < 2 ^ 31) (hno : ∀ j, j < k → p ≠ nI j) (h : ed_st xs ys k = (xs.length, ys.length)) : eav xs ys p = 0 := by
  unfold eav
  by_cases q : p < 0
  · rw [if_pos q]
  · obtain ⟨j, hj, rfl⟩ := nI_of q
    rw [if_neg q, nI_clamp hj]
    exact ed_at_end h (Nat.le_of_not_lt (fun z => hno j z rfl))
theorem eav_k {xs ys : List Nat} {k : Nat} (hk : k < 2 ^ 31) (h : ¬ ed_st xs ys k = (xs.length, ys.length)) : eav xs ys (nI k) = ed_f xs ys (ed_st xs ys k).1 (ed_st xs ys k).2 + 1 := by
  unfold eav; rw [if_neg (nI_pos hk), nI_clamp hk, ed_at, if_neg h]
set_option maxHeartbeats 4000000 in
set_option maxRecDepth 100000 in
theorem c_E_editAt (l : Launch) {G : zG} {ad : Nat → Nat} {en : Nat → va_E} {N : Nat} {k1 a1 c1 : Nat} {xs : List Nat} (hk1 : k1 < N) (ha1 : a1 < N) (hn1 : k1 ≠ a1) (hc1 : c1 < 2 ^ 31) (g : pL G ad en k1 a1 c1 xs) {k2 a2 c2 : Nat} {ys : List Nat} (hk2 : k2 < N) (ha2 : a2 < N) (hn2 : k2 ≠ a2) (hc2 : c2 < 2 ^ 31) (h : pL G ad en k2 a2 c2 ys) (hx : xs.length ≤ 10) (hy : ys.length ≤ 8) (hN : 90 ≤ N) {M : Nat → Nat → Int32} (hT : pT G ad en 77 kE 9 M) (r1 : k1 < 77 ∨ 90 ≤ k1) (r2 : a1 < 77 ∨ 90 ≤ a1) (r3 : k2 < 77 ∨ 90 ≤ k2) (r4 : a2 < 77 ∨ 90 ≤ a2) {p0 : Int32} : zMi l y_E_editAt b_E_editAt 8 .int 4 G ad en N [.ref (ad (77)), .ref (ad (k1)), .ref (ad (k2)), .int (p0)] (fun v en1 => v = iv (eav xs ys p0) ∧ (∃ M1, pT G ad en1 77 kE 9 M1) ∧ ∀ r, r < 77 ∨ 90 ≤ r → en1 r = en r) := by
  have gg := g
  obtain ⟨e1, g1, g26, f1, e2, g2⟩ := gg
  have hh := h
  obtain ⟨e3, h1, h26, f2, e4, h2⟩ := hh
  have tt := hT
  obtain ⟨t1, ⟨tg, t2, t2g⟩, t3⟩ := tt
  refine z_met (by decide) (Nat.le_of_ble_eq_true rfl) ?_
  intro p e s m below meth c ls hF hr hlocks hnam hZ hl
  have hF : CallFix p m c b_E_editAt 8 s ([.ref (ad (77)), .ref (ad (k1)), .ref (ad (k2)), .int (p0)] : List Value).toArray zz R_E := hF
  have hl : lv_has ls 8 [(0, .ref (ad (77))), (1, .ref (ad (k1))), (2, .ref (ad (k2))), (3, .int (p0))] := hl
  refine lv_aload_n hF.1 hF.2.1 d_E_editAt_0 rfl (lv_at hl 0 rfl) ?_
  refine lv_aload_n hF.1 hF.2.1 d_E_editAt_1 rfl (lv_at hl 1 rfl) ?_
  refine lv_aload_n hF.1 hF.2.1 d_E_editAt_2 rfl (lv_at hl 2 rfl) ?_
  refine z_calli hZ (z_run cw_E_26 hF hZ (77) (c_E_measure l hk1 ha1 hn1 hc1 g hk2 ha2 hn2 hc2 h hx hy hN hT r1 r2 r3 r4) (by decide) (by omega) t1 rfl rfl hl.1 rfl (Nat.le_of_ble_eq_true rfl) d_E_editAt_3) (fun v en1 H locs hq hZ => ?_)
  obtain ⟨-, ⟨M1, hT1, hM1⟩, hfr⟩ := hq
  have g0 := g.keep (hfr k1 r1) (hfr a1 r2)
  have h0 := h.keep (hfr k2 r3) (hfr a2 r4)
  have gg := g0
  obtain ⟨e1, g1, g26, f1, e2, g2⟩ := gg
  have hh := h0
  obtain ⟨e3, h1, h26, f2, e4, h2⟩ := hh
  have tt := hT1
  obtain ⟨t1, ⟨tg, t2, t2g⟩, t3⟩ := tt
  have loop : ∀ (n k : Nat) (H : Heap) (locs : List Loc) (ls : Array Slot), (k + n = 18) → (∀ j, j < k → p0 ≠ nI j) → lv_has ls 8 [(6, .int (nI (k))), (5, .int (nI ((ed_st xs ys k).2))), (4, .int (nI ((ed_st xs ys k).1))), (0, .ref (ad (77))), (1, .ref (ad (k1))), (2, .ref (ad (k2))), (3, .int (p0))] → zH G ad en1 N s H locs → W p l e (zR 4) s m ([.ref (ad (77)), .ref (ad (k1)), .ref (ad (k2)), .int (p0)] : List Value).toArray below meth c H locs 0 0 (MQ below (zQi G ad N (fun v en1 => v = iv (eav xs ys p0) ∧ (∃ M1, pT G ad en1 77 kE 9 M1) ∧ ∀ r, r < 77 ∨ 90 ≤ r → en1 r = en r)) ([.ref (ad (77)), .ref (ad (k1)), .ref (ad (k2)), .int (p0)] : List Value).toArray s 0 0 (zA G)) (F0 m 16 ls []) := by
    intro n
    induction n with
    | zero =>
      intro k H locs ls hin hno hl hZ
      refine lv_iload hF.1 hF.2.1 d_E_editAt_16 (lv_at hl 0 rfl) ?_
      refine lv_bipush (v := (nI (18))) hF.1 hF.2.1 d_E_editAt_18 (by decide) ?_
      refine lv_icmp_ge (tgt := 104) hF.1 hF.2.1 d_E_editAt_20 (by decide) (fun _ => ?_) (fun h => absurd (nI_le (by omega) (by omega)) h)
      refine lv_iconst (v := ((-1))) hF.1 hF.2.1 d_E_editAt_104 (by decide) ?_
      exact z_iret hF hr hlocks hZ rfl ⟨by rw [eav_0 (k := k) (by omega) hno (ed_st_end xs ys (by omega))]; exact iv_0.symm, ⟨M1, hT1⟩, hfr⟩ d_E_editAt_105
    | succ n ih =>
      intro k H locs ls hin hno hl hZ
      obtain ⟨s1, s2, -⟩ := ed_st_in xs ys k
      have hfl := ed_f_le xs ys (ed_st xs ys k).1 (ed_st xs ys k).2
      refine lv_iload hF.1 hF.2.1 d_E_editAt_16 (lv_at hl 0 rfl) ?_
      refine lv_bipush (v := (nI (18))) hF.1 hF.2.1 d_E_editAt_18 (by decide) ?_
      refine lv_icmp_ge (tgt := 104) hF.1 hF.2.1 d_E_editAt_20 (by decide) (fun h => absurd h (nI_ge (show k < 18 by omega) (by omega))) (fun _ => ?_)
      refine lv_iload hF.1 hF.2.1 d_E_editAt_23 (lv_at hl 2 rfl) ?_
      refine lv_aload_n hF.1 hF.2.1 d_E_editAt_25 rfl (lv_at hl 4 rfl) ?_
      refine gf_E_16 hF hZ (k1) hk1 e1 rfl d_E_editAt_26 ?_
      refine lv_icmp_ne (tgt := 43) hF.1 hF.2.1 d_E_editAt_29 (by decide) (fun q => ?_) (fun q => ?_)
      · have hne : ¬ ed_st xs ys k = (xs.length, ys.length) := fun z => q (by rw [z])
        have hst : ed_st xs ys (k + 1) = ed_mv (ed_f xs ys (ed_st xs ys k).1 (ed_st xs ys k).2) (ed_st xs ys k) := by rw [ed_st, if_neg hne]
        refine lv_aload_n hF.1 hF.2.1 d_E_editAt_43 rfl (lv_at hl 3 rfl) ?_
        refine lv_aload_n hF.1 hF.2.1 d_E_editAt_44 rfl (lv_at hl 4 rfl) ?_
        refine lv_iload hF.1 hF.2.1 d_E_editAt_45 (lv_at hl 2 rfl) ?_
        refine lv_aload_n hF.1 hF.2.1 d_E_editAt_47 rfl (lv_at hl 5 rfl) ?_
        refine lv_iload hF.1 hF.2.1 d_E_editAt_48 (lv_at hl 1 rfl) ?_
        refine z_calli hZ (z_run cw_E_30 hF hZ (77) (c_E_firstEdit l hk1 ha1 hn1 hc1 g0 hk2 ha2 hn2 hc2 h0 hx hy hN hT1 (i := (ed_st xs ys k).1) (j := (ed_st xs ys k).2) s1 s2 hM1) (by decide) (by omega) t1 rfl rfl hl.1 rfl (Nat.le_of_ble_eq_true rfl) d_E_editAt_50) (fun v enq H locs hp hZ => ?_)
        obtain ⟨he, hv⟩ := hp
        subst hv
        have hZ := hZ.to he
        refine lv_istore hF.1 hF.2.1 d_E_editAt_53 hl (by decide) rfl (fun ls hl => ?_)
        have hl : lv_has ls 8 [(7, .int (nI (ed_f xs ys (ed_st xs ys k).1 (ed_st xs ys k).2))), (6, .int (nI (k))), (5, .int (nI ((ed_st xs ys k).2))), (4, .int (nI ((ed_st xs ys k).1))), (0, .ref (ad (77))), (1, .ref (ad (k1))), (2, .ref (ad (k2))), (3, .int (p0))] := hl
        refine lv_iload hF.1 hF.2.1 d_E_editAt_55 (lv_at hl 1 rfl) ?_
        refine lv_iload_n hF.1 hF.2.1 d_E_editAt_57 rfl (lv_at hl 7 rfl) ?_
        refine lv_icmp_ne (tgt := 64) hF.1 hF.2.1 d_E_editAt_58 (by decide) (fun u => ?_) (fun u => ?_)
        · refine lv_iload hF.1 hF.2.1 d_E_editAt_64 (lv_at hl 0 rfl) ?_
          refine lv_iconst (v := (nI (3))) hF.1 hF.2.1 d_E_editAt_66 (by decide) ?_
          refine lv_icmp_ne (tgt := 75) hF.1 hF.2.1 d_E_editAt_67 (by decide) (fun x => ?_) (fun x => ?_)
          · have x : ¬ ed_f xs ys (ed_st xs ys k).1 (ed_st xs ys k).2 = 3 := fun z => x (by rw [z])
            refine lv_iload hF.1 hF.2.1 d_E_editAt_75 (lv_at hl 3 rfl) ?_
            refine lv_iconst (v := (nI (1))) hF.1 hF.2.1 d_E_editAt_77 (by decide) ?_
            refine lv_iadd hF.1 hF.2.1 d_E_editAt_78 ?_
            refine z_top (nI_add ((ed_st xs ys k).1) (1)) ?_
            refine lv_istore hF.1 hF.2.1 d_E_editAt_79 hl (by decide) rfl (fun ls hl => ?_)
            have hl : lv_has ls 8 [(4, .int (nI ((ed_st xs ys k).1 + 1))), (7, .int (nI (ed_f xs ys (ed_st xs ys k).1 (ed_st xs ys k).2))), (6, .int (nI (k))), (5, .int (nI ((ed_st xs ys k).2))), (0, .ref (ad (77))), (1, .ref (ad (k1))), (2, .ref (ad (k2))), (3, .int (p0))] := hl
            refine lv_iload hF.1 hF.2.1 d_E_editAt_81 (lv_at hl 1 rfl) ?_
            refine lv_iconst (v := (nI (2))) hF.1 hF.2.1 d_E_editAt_83 (by decide) ?_
            refine lv_icmp_ne (tgt := 92) hF.1 hF.2.1 d_E_editAt_84 (by decide) (fun y => ?_) (fun y => ?_)
            · have y : ¬ ed_f xs ys (ed_st xs ys k).1 (ed_st xs ys k).2 = 2 := fun z => y (by rw [z])
              refine lv_iload hF.1 hF.2.1 d_E_editAt_92 (lv_at hl 3 rfl) ?_
              refine lv_iconst (v := (nI (1))) hF.1 hF.2.1 d_E_editAt_94 (by decide) ?_
              refine lv_iadd hF.1 hF.2.1 d_E_editAt_95 ?_
              refine z_top (nI_add ((ed_st xs ys k).2) (1)) ?_
              refine lv_istore hF.1 hF.2.1 d_E_editAt_96 hl (by decide) rfl (fun ls hl => ?_)
              have hl : lv_has ls 8 [(5, .int (nI ((ed_st xs ys k).2 + 1))), (4, .int (nI ((ed_st xs ys k).1 + 1))), (7, .int (nI (ed_f xs ys (ed_st xs ys k).1 (ed_st xs ys k).2))), (6, .int (nI (k))), (0, .ref (ad (77))), (1, .ref (ad (k1))), (2, .ref (ad (k2))), (3, .int (p0))] := hl
              refine lv_iinc (k := 3) (v := (nI (k + 1))) hF.1 hF.2.1 d_E_editAt_98 hl rfl (iinc_p (k)) (by decide) rfl (fun ls hl => ?_)
              have hl : lv_has ls 8 [(6, .int (nI (k + 1))), (5, .int (nI ((ed_st xs ys k).2 + 1))), (4, .int (nI ((ed_st xs ys k).1 + 1))), (7, .int (nI (ed_f xs ys (ed_st xs ys k).1 (ed_st xs ys k).2))), (0, .ref (ad (77))), (1, .ref (ad (k1))), (2, .ref (ad (k2))), (3, .int (p0))] := hl
              refine lv_goto (tgt := 16) hF.1 hF.2.1 d_E_editAt_101 (by decide) ?_
              refine ih (k + 1) H locs ls (by omega) (fun j hj => ?_) ?_ hZ
              · by_cases e : j = k
                · subst e; exact fun z => u z.symm
                · exact hno j (by omega)
              · rw [hst]; unfold ed_mv; simp only [if_neg x, if_neg y]; exact lv_sub hl [0, 1, 2, 4, 5, 6, 7] rfl
            · have y := (nI_eq (by omega) (by omega)).mp y
              refine lv_iload hF.1 hF.2.1 d_E_editAt_87 (lv_at hl 3 rfl) ?_
              refine lv_goto (tgt := 96) hF.1 hF.2.1 d_E_editAt_89 (by decide) ?_
              refine lv_istore hF.1 hF.2.1 d_E_editAt_96 hl (by decide) rfl (fun ls hl => ?_)
              have hl : lv_has ls 8 [(5, .int (nI ((ed_st xs ys k).2))), (4, .int (nI ((ed_st xs ys k).1 + 1))), (7, .int (nI (ed_f xs ys (ed_st xs ys k).1 (ed_st xs ys k).2))), (6, .int (nI (k))), (0, .ref (ad (77))), (1, .ref (ad (k1))), (2, .ref (ad (k2))), (3, .int (p0))] := hl
              refine lv_iinc (k := 3) (v := (nI (k + 1))) hF.1 hF.2.1 d_E_editAt_98 hl rfl (iinc_p (k)) (by decide) rfl (fun ls hl => ?_)
              have hl : lv_has ls 8 [(6, .int (nI (k + 1))), (5, .int (nI ((ed_st xs ys k).2))), (4, .int (nI ((ed_st xs ys k).1 + 1))), (7, .int (nI (ed_f xs ys (ed_st xs ys k).1 (ed_st xs ys k).2))), (0, .ref (ad (77))), (1, .ref (ad (k1))), (2, .ref (ad (k2))), (3, .int (p0))] := hl
              refine lv_goto (tgt := 16) hF.1 hF.2.1 d_E_editAt_101 (by decide) ?_
              refine ih (k + 1) H locs ls (by omega) (fun j hj => ?_) ?_ hZ
              · by_cases e : j = k
                · subst e; exact fun z => u z.symm
                · exact hno j (by omega)
              · rw [hst]; unfold ed_mv; simp only [if_neg x, if_pos y]; exact lv_sub hl [0, 1, 2, 4, 5, 6, 7] rfl
          · have x := (nI_eq (by omega) (by omega)).mp x
            refine lv_iload hF.1 hF.2.1 d_E_editAt_70 (lv_at hl 3 rfl) ?_
            refine lv_goto (tgt := 79) hF.1 hF.2.1 d_E_editAt_72 (by decide) ?_
            refine lv_istore hF.1 hF.2.1 d_E_editAt_79 hl (by decide) rfl (fun ls hl => ?_)
            have hl : lv_has ls 8 [(4, .int (nI ((ed_st xs ys k).1))), (7, .int (nI (ed_f xs ys (ed_st xs ys k).1 (ed_st xs ys k).2))), (6, .int (nI (k))), (5, .int (nI ((ed_st xs ys k).2))), (0, .ref (ad (77))), (1, .ref (ad (k1))), (2, .ref (ad (k2))), (3, .int (p0))] := hl
            refine lv_iload hF.1 hF.2.1 d_E_editAt_81 (lv_at hl 1 rfl) ?_
            refine lv_iconst (v := (nI (2))) hF.1 hF.2.1 d_E_editAt_83 (by decide) ?_
            refine lv_icmp_ne (tgt := 92) hF.1 hF.2.1 d_E_editAt_84 (by decide) (fun y => ?_) (fun y => ?_)
            · have y : ¬ ed_f xs ys (ed_st xs ys k).1 (ed_st xs ys k).2 = 2 := fun z => y (by rw [z])
              refine lv_iload hF.1 hF.2.1 d_E_editAt_92 (lv_at hl 3 rfl) ?_
              refine lv_iconst (v := (nI (1))) hF.1 hF.2.1 d_E_editAt_94 (by decide) ?_
              refine lv_iadd hF.1 hF.2.1 d_E_editAt_95 ?_
              refine z_top (nI_add ((ed_st xs ys k).2) (1)) ?_
              refine lv_istore hF.1 hF.2.1 d_E_editAt_96 hl (by decide) rfl (fun ls hl => ?_)
              have hl : lv_has ls 8 [(5, .int (nI ((ed_st xs ys k).2 + 1))), (4, .int (nI ((ed_st xs ys k).1))), (7, .int (nI (ed_f xs ys (ed_st xs ys k).1 (ed_st xs ys k).2))), (6, .int (nI (k))), (0, .ref (ad (77))), (1, .ref (ad (k1))), (2, .ref (ad (k2))), (3, .int (p0))] := hl
              refine lv_iinc (k := 3) (v := (nI (k + 1))) hF.1 hF.2.1 d_E_editAt_98 hl rfl (iinc_p (k)) (by decide) rfl (fun ls hl => ?_)
              have hl : lv_has ls 8 [(6, .int (nI (k + 1))), (5, .int (nI ((ed_st xs ys k).2 + 1))), (4, .int (nI ((ed_st xs ys k).1))), (7, .int (nI (ed_f xs ys (ed_st xs ys k).1 (ed_st xs ys k).2))), (0, .ref (ad (77))), (1, .ref (ad (k1))), (2, .ref (ad (k2))), (3, .int (p0))] := hl
              refine lv_goto (tgt := 16) hF.1 hF.2.1 d_E_editAt_101 (by decide) ?_
              refine ih (k + 1) H locs ls (by omega) (fun j hj => ?_) ?_ hZ
              · by_cases e : j = k
                · subst e; exact fun z => u z.symm
                · exact hno j (by omega)
              · rw [hst]; unfold ed_mv; simp only [if_pos x, if_neg y]; exact lv_sub hl [0, 1, 2, 4, 5, 6, 7] rfl
            · have y := (nI_eq (by omega) (by omega)).mp y
              refine lv_iload hF.1 hF.2.1 d_E_editAt_87 (lv_at hl 3 rfl) ?_
              refine lv_goto (tgt := 96) hF.1 hF.2.1 d_E_editAt_89 (by decide) ?_
              refine lv_istore hF.1 hF.2.1 d_E_editAt_96 hl (by decide) rfl (fun ls hl => ?_)
              have hl : lv_has ls 8 [(5, .int (nI ((ed_st xs ys k).2))), (4, .int (nI ((ed_st xs ys k).1))), (7, .int (nI (ed_f xs ys (ed_st xs ys k).1 (ed_st xs ys k).2))), (6, .int (nI (k))), (0, .ref (ad (77))), (1, .ref (ad (k1))), (2, .ref (ad (k2))), (3, .int (p0))] := hl
              refine lv_iinc (k := 3) (v := (nI (k + 1))) hF.1 hF.2.1 d_E_editAt_98 hl rfl (iinc_p (k)) (by decide) rfl (fun ls hl => ?_)
              have hl : lv_has ls 8 [(6, .int (nI (k + 1))), (5, .int (nI ((ed_st xs ys k).2))), (4, .int (nI ((ed_st xs ys k).1))), (7, .int (nI (ed_f xs ys (ed_st xs ys k).1 (ed_st xs ys k).2))), (0, .ref (ad (77))), (1, .ref (ad (k1))), (2, .ref (ad (k2))), (3, .int (p0))] := hl
              refine lv_goto (tgt := 16) hF.1 hF.2.1 d_E_editAt_101 (by decide) ?_
              refine ih (k + 1) H locs ls (by omega) (fun j hj => ?_) ?_ hZ
              · by_cases e : j = k
                · subst e; exact fun z => u z.symm
                · exact hno j (by omega)
              · rw [hst]; unfold ed_mv; simp only [if_pos x, if_pos y]; exact lv_sub hl [0, 1, 2, 4, 5, 6, 7] rfl
        · refine lv_iload hF.1 hF.2.1 d_E_editAt_61 (lv_at hl 0 rfl) ?_
          exact z_iret hF hr hlocks hZ rfl ⟨by rw [← u, eav_k (by omega) hne, iv_s], ⟨M1, hT1⟩, hfr⟩ d_E_editAt_63
      · have q := (nI_eq (by omega) (by omega)).mp q
        refine lv_iload hF.1 hF.2.1 d_E_editAt_32 (lv_at hl 1 rfl) ?_
        refine lv_aload_n hF.1 hF.2.1 d_E_editAt_34 rfl (lv_at hl 5 rfl) ?_
        refine gf_E_16 hF hZ (k2) hk2 e3 rfl d_E_editAt_35 ?_
        refine lv_icmp_ne (tgt := 43) hF.1 hF.2.1 d_E_editAt_38 (by decide) (fun r => ?_) (fun r => ?_)
        · have hne : ¬ ed_st xs ys k = (xs.length, ys.length) := fun z => r (by rw [z])
          have hst : ed_st xs ys (k + 1) = ed_mv (ed_f xs ys (ed_st xs ys k).1 (ed_st xs ys k).2) (ed_st xs ys k) := by rw [ed_st, if_neg hne]
          refine lv_aload_n hF.1 hF.2.1 d_E_editAt_43 rfl (lv_at hl 3 rfl) ?_
          refine lv_aload_n hF.1 hF.2.1 d_E_editAt_44 rfl (lv_at hl 4 rfl) ?_
          refine lv_iload hF.1 hF.2.1 d_E_editAt_45 (lv_at hl 2 rfl) ?_
          refine lv_aload_n hF.1 hF.2.1 d_E_editAt_47 rfl (lv_at hl 5 rfl) ?_
          refine lv_iload hF.1 hF.2.1 d_E_editAt_48 (lv_at hl 1 rfl) ?_
          refine z_calli hZ (z_run cw_E_30 hF hZ (77) (c_E_firstEdit l hk1 ha1 hn1 hc1 g0 hk2 ha2 hn2 hc2 h0 hx hy hN hT1 (i := (ed_st xs ys k).1) (j := (ed_st xs ys k).2) s1 s2 hM1) (by decide) (by omega) t1 rfl rfl hl.1 rfl (Nat.le_of_ble_eq_true rfl) d_E_editAt_50) (fun v enq H locs hp hZ => ?_)
          obtain ⟨he, hv⟩ := hp
          subst hv
          have hZ := hZ.to he
          refine lv_istore hF.1 hF.2.1 d_E_editAt_53 hl (by decide) rfl (fun ls hl => ?_)
          have hl : lv_has ls 8 [(7, .int (nI (ed_f xs ys (ed_st xs ys k).1 (ed_st xs ys k).2))), (6, .int (nI (k))), (5, .int (nI ((ed_st xs ys k).2))), (4, .int (nI ((ed_st xs ys k).1))), (0, .ref (ad (77))), (1, .ref (ad (k1))), (2, .ref (ad (k2))), (3, .int (p0))] := hl
          refine lv_iload hF.1 hF.2.1 d_E_editAt_55 (lv_at hl 1 rfl) ?_
          refine lv_iload_n hF.1 hF.2.1 d_E_editAt_57 rfl (lv_at hl 7 rfl) ?_
          refine lv_icmp_ne (tgt := 64) hF.1 hF.2.1 d_E_editAt_58 (by decide) (fun u => ?_) (fun u => ?_)
          · refine lv_iload hF.1 hF.2.1 d_E_editAt_64 (lv_at hl 0 rfl) ?_
            refine lv_iconst (v := (nI (3))) hF.1 hF.2.1 d_E_editAt_66 (by decide) ?_
            refine lv_icmp_ne (tgt := 75) hF.1 hF.2.1 d_E_editAt_67 (by decide) (fun x => ?_) (fun x => ?_)
            · have x : ¬ ed_f xs ys (ed_st xs ys k).1 (ed_st xs ys k).2 = 3 := fun z => x (by rw [z])
              refine lv_iload hF.1 hF.2.1 d_E_editAt_75 (lv_at hl 3 rfl) ?_
              refine lv_iconst (v := (nI (1))) hF.1 hF.2.1 d_E_editAt_77 (by decide) ?_
              refine lv_iadd hF.1 hF.2.1 d_E_editAt_78 ?_
              refine z_top (nI_add ((ed_st xs ys k).1) (1)) ?_
              refine lv_istore hF.1 hF.2.1 d_E_editAt_79 hl (by decide) rfl (fun ls hl => ?_)
              have hl : lv_has ls 8 [(4, .int (nI ((ed_st xs ys k).1 + 1))), (7, .int (nI (ed_f xs ys (ed_st xs ys k).1 (ed_st xs ys k).2))), (6, .int (nI (k))), (5, .int (nI ((ed_st xs ys k).2))), (0, .ref (ad (77))), (1, .ref (ad (k1))), (2, .ref (ad (k2))), (3, .int (p0))] := hl
              refine lv_iload hF.1 hF.2.1 d_E_editAt_81 (lv_at hl 1 rfl) ?_
              refine lv_iconst (v := (nI (2))) hF.1 hF.2.1 d_E_editAt_83 (by decide) ?_
              refine lv_icmp_ne (tgt := 92) hF.1 hF.2.1 d_E_editAt_84 (by decide) (fun y => ?_) (fun y => ?_)
              · have y : ¬ ed_f xs ys (ed_st xs ys k).1 (ed_st xs ys k).2 = 2 := fun z => y (by rw [z])
                refine lv_iload hF.1 hF.2.1 d_E_editAt_92 (lv_at hl 3 rfl) ?_
                refine lv_iconst (v := (nI (1))) hF.1 hF.2.1 d_E_editAt_94 (by decide) ?_
                refine lv_iadd hF.1 hF.2.1 d_E_editAt_95 ?_
                refine z_top (nI_add ((ed_st xs ys k).2) (1)) ?_
                refine lv_istore hF.1 hF.2.1 d_E_editAt_96 hl (by decide) rfl (fun ls hl => ?_)
                have hl : lv_has ls 8 [(5, .int (nI ((ed_st xs ys k).2 + 1))), (4, .int (nI ((ed_st xs ys k).1 + 1))), (7, .int (nI (ed_f xs ys (ed_st xs ys k).1 (ed_st xs ys k).2))), (6, .int (nI (k))), (0, .ref (ad (77))), (1, .ref (ad (k1))), (2, .ref (ad (k2))), (3, .int (p0))] := hl
                refine lv_iinc (k := 3) (v := (nI (k + 1))) hF.1 hF.2.1 d_E_editAt_98 hl rfl (iinc_p (k)) (by decide) rfl (fun ls hl => ?_)
                have hl : lv_has ls 8 [(6, .int (nI (k + 1))), (5, .int (nI ((ed_st xs ys k).2 + 1))), (4, .int (nI ((ed_st xs ys k).1 + 1))), (7, .int (nI (ed_f xs ys (ed_st xs ys k).1 (ed_st xs ys k).2))), (0, .ref (ad (77))), (1, .ref (ad (k1))), (2, .ref (ad (k2))), (3, .int (p0))] := hl
                refine lv_goto (tgt := 16) hF.1 hF.2.1 d_E_editAt_101 (by decide) ?_
                refine ih (k + 1) H locs ls (by omega) (fun j hj => ?_) ?_ hZ
                · by_cases e : j = k
                  · subst e; exact fun z => u z.symm
                  · exact hno j (by omega)
                · rw [hst]; unfold ed_mv; simp only [if_neg x, if_neg y]; exact lv_sub hl [0, 1, 2, 4, 5, 6, 7] rfl
              · have y := (nI_eq (by omega) (by omega)).mp y
                refine lv_iload hF.1 hF.2.1 d_E_editAt_87 (lv_at hl 3 rfl) ?_
                refine lv_goto (tgt := 96) hF.1 hF.2.1 d_E_editAt_89 (by decide) ?_
                refine lv_istore hF.1 hF.2.1 d_E_editAt_96 hl (by decide) rfl (fun ls hl => ?_)
                have hl : lv_has ls 8 [(5, .int (nI ((ed_st xs ys k).2))), (4, .int (nI ((ed_st xs ys k).1 + 1))), (7, .int (nI (ed_f xs ys (ed_st xs ys k).1 (ed_st xs ys k).2))), (6, .int (nI (k))), (0, .ref (ad (77))), (1, .ref (ad (k1))), (2, .ref (ad (k2))), (3, .int (p0))] := hl
                refine lv_iinc (k := 3) (v := (nI (k + 1))) hF.1 hF.2.1 d_E_editAt_98 hl rfl (iinc_p (k)) (by decide) rfl (fun ls hl => ?_)
                have hl : lv_has ls 8 [(6, .int (nI (k + 1))), (5, .int (nI ((ed_st xs ys k).2))), (4, .int (nI ((ed_st xs ys k).1 + 1))), (7, .int (nI (ed_f xs ys (ed_st xs ys k).1 (ed_st xs ys k).2))), (0, .ref (ad (77))), (1, .ref (ad (k1))), (2, .ref (ad (k2))), (3, .int (p0))] := hl
                refine lv_goto (tgt := 16) hF.1 hF.2.1 d_E_editAt_101 (by decide) ?_
                refine ih (k + 1) H locs ls (by omega) (fun j hj => ?_) ?_ hZ
                · by_cases e : j = k
                  · subst e; exact fun z => u z.symm
                  · exact hno j (by omega)
                · rw [hst]; unfold ed_mv; simp only [if_neg x, if_pos y]; exact lv_sub hl [0, 1, 2, 4, 5, 6, 7] rfl
            · have x := (nI_eq (by omega) (by omega)).mp x
              refine lv_iload hF.1 hF.2.1 d_E_editAt_70 (lv_at hl 3 rfl) ?_
              refine lv_goto (tgt := 79) hF.1 hF.2.1 d_E_editAt_72 (by decide) ?_
              refine lv_istore hF.1 hF.2.1 d_E_editAt_79 hl (by decide) rfl (fun ls hl => ?_)
              have hl : lv_has ls 8 [(4, .int (nI ((ed_st xs ys k).1))), (7, .int (nI (ed_f xs ys (ed_st xs ys k).1 (ed_st xs ys k).2))), (6, .int (nI (k))), (5, .int (nI ((ed_st xs ys k).2))), (0, .ref (ad (77))), (1, .ref (ad (k1))), (2, .ref (ad (k2))), (3, .int (p0))] := hl
              refine lv_iload hF.1 hF.2.1 d_E_editAt_81 (lv_at hl 1 rfl) ?_
              refine lv_iconst (v := (nI (2))) hF.1 hF.2.1 d_E_editAt_83 (by decide) ?_
              refine lv_icmp_ne (tgt := 92) hF.1 hF.2.1 d_E_editAt_84 (by decide) (fun y => ?_) (fun y => ?_)
              · have y : ¬ ed_f xs ys (ed_st xs ys k).1 (ed_st xs ys k).2 = 2 := fun z => y (by rw [z])
                refine lv_iload hF.1 hF.2.1 d_E_editAt_92 (lv_at hl 3 rfl) ?_
                refine lv_iconst (v := (nI (1))) hF.1 hF.2.1 d_E_editAt_94 (by decide) ?_
                refine lv_iadd hF.1 hF.2.1 d_E_editAt_95 ?_
                refine z_top (nI_add ((ed_st xs ys k).2) (1)) ?_
                refine lv_istore hF.1 hF.2.1 d_E_editAt_96 hl (by decide) rfl (fun ls hl => ?_)
                have hl : lv_has ls 8 [(5, .int (nI ((ed_st xs ys k).2 + 1))), (4, .int (nI ((ed_st xs ys k).1))), (7, .int (nI (ed_f xs ys (ed_st xs ys k).1 (ed_st xs ys k).2))), (6, .int (nI (k))), (0, .ref (ad (77))), (1, .ref (ad (k1))), (2, .ref (ad (k2))), (3, .int (p0))] := hl
                refine lv_iinc (k := 3) (v := (nI (k + 1))) hF.1 hF.2.1 d_E_editAt_98 hl rfl (iinc_p (k)) (by decide) rfl (fun ls hl => ?_)
                have hl : lv_has ls 8 [(6, .int (nI (k + 1))), (5, .int (nI ((ed_st xs ys k).2 + 1))), (4, .int (nI ((ed_st xs ys k).1))), (7, .int (nI (ed_f xs ys (ed_st xs ys k).1 (ed_st xs ys k).2))), (0, .ref (ad (77))), (1, .ref (ad (k1))), (2, .ref (ad (k2))), (3, .int (p0))] := hl
                refine lv_goto (tgt := 16) hF.1 hF.2.1 d_E_editAt_101 (by decide) ?_
                refine ih (k + 1) H locs ls (by omega) (fun j hj => ?_) ?_ hZ
                · by_cases e : j = k
                  · subst e; exact fun z => u z.symm
                  · exact hno j (by omega)
                · rw [hst]; unfold ed_mv; simp only [if_pos x, if_neg y]; exact lv_sub hl [0, 1, 2, 4, 5, 6, 7] rfl
              · have y := (nI_eq (by omega) (by omega)).mp y
                refine lv_iload hF.1 hF.2.1 d_E_editAt_87 (lv_at hl 3 rfl) ?_
                refine lv_goto (tgt := 96) hF.1 hF.2.1 d_E_editAt_89 (by decide) ?_
                refine lv_istore hF.1 hF.2.1 d_E_editAt_96 hl (by decide) rfl (fun ls hl => ?_)
                have hl : lv_has ls 8 [(5, .int (nI ((ed_st xs ys k).2))), (4, .int (nI ((ed_st xs ys k).1))), (7, .int (nI (ed_f xs ys (ed_st xs ys k).1 (ed_st xs ys k).2))), (6, .int (nI (k))), (0, .ref (ad (77))), (1, .ref (ad (k1))), (2, .ref (ad (k2))), (3, .int (p0))] := hl
                refine lv_iinc (k := 3) (v := (nI (k + 1))) hF.1 hF.2.1 d_E_editAt_98 hl rfl (iinc_p (k)) (by decide) rfl (fun ls hl => ?_)
                have hl : lv_has ls 8 [(6, .int (nI (k + 1))), (5, .int (nI ((ed_st xs ys k).2))), (4, .int (nI ((ed_st xs ys k).1))), (7, .int (nI (ed_f xs ys (ed_st xs ys k).1 (ed_st xs ys k).2))), (0, .ref (ad (77))), (1, .ref (ad (k1))), (2, .ref (ad (k2))), (3, .int (p0))] := hl
                refine lv_goto (tgt := 16) hF.1 hF.2.1 d_E_editAt_101 (by decide) ?_
                refine ih (k + 1) H locs ls (by omega) (fun j hj => ?_) ?_ hZ
                · by_cases e : j = k
                  · subst e; exact fun z => u z.symm
                  · exact hno j (by omega)
                · rw [hst]; unfold ed_mv; simp only [if_pos x, if_pos y]; exact lv_sub hl [0, 1, 2, 4, 5, 6, 7] rfl
          · refine lv_iload hF.1 hF.2.1 d_E_editAt_61 (lv_at hl 0 rfl) ?_
            exact z_iret hF hr hlocks hZ rfl ⟨by rw [← u, eav_k (by omega) hne, iv_s], ⟨M1, hT1⟩, hfr⟩ d_E_editAt_63
        · have r := (nI_eq (by omega) (by omega)).mp r
          refine lv_iconst (v := ((-1))) hF.1 hF.2.1 d_E_editAt_41 (by decide) ?_
          exact z_iret hF hr hlocks hZ rfl ⟨by rw [eav_0 (k := k) (by omega) hno (Prod.ext q r)]; exact iv_0.symm, ⟨M1, hT1⟩, hfr⟩ d_E_editAt_42
  refine lv_pop hF.1 hF.2.1 d_E_editAt_6 rfl ?_
  refine lv_iconst (v := (nI (0))) hF.1 hF.2.1 d_E_editAt_7 (by decide) ?_
  refine lv_istore hF.1 hF.2.1 d_E_editAt_8 hl (by decide) rfl (fun ls hl => ?_)
  have hl : lv_has ls 8 [(4, .int (nI (0))), (0, .ref (ad (77))), (1, .ref (ad (k1))), (2, .ref (ad (k2))), (3, .int (p0))] := hl
  refine lv_iconst (v := (nI (0))) hF.1 hF.2.1 d_E_editAt_10 (by decide) ?_
  refine lv_istore hF.1 hF.2.1 d_E_editAt_11 hl (by decide) rfl (fun ls hl => ?_)
  have hl : lv_has ls 8 [(5, .int (nI (0))), (4, .int (nI (0))), (0, .ref (ad (77))), (1, .ref (ad (k1))), (2, .ref (ad (k2))), (3, .int (p0))] := hl
  refine lv_iconst (v := (nI (0))) hF.1 hF.2.1 d_E_editAt_13 (by decide) ?_
  refine lv_istore hF.1 hF.2.1 d_E_editAt_14 hl (by decide) rfl (fun ls hl => ?_)
  have hl : lv_has ls 8 [(6, .int (nI (0))), (5, .int (nI (0))), (4, .int (nI (0))), (0, .ref (ad (77))), (1, .ref (ad (k1))), (2, .ref (ad (k2))), (3, .int (p0))] := hl
  exact loop 18 0 _ _ ls (by omega) (fun j hj => absurd hj (Nat.not_lt_zero _)) hl hZ
end
section
theorem nI_m1 {p : Nat} (h : p < 2 ^ 31) : ¬ nI p = -1 := fun z => by
  have := nI_toInt h
  rw [z] at this
  have h1 : (-1 : Int32).toInt = -1 := by decide
  omega
theorem iinc_w (c : Nat) : nI c + Int32.ofInt (-1) = iv c := iinc_v c
set_option maxHeartbeats 4000000 in
set_option maxRecDepth 100000 in
theorem c_R_placeBefore (l : Launch) {G : zG} {ad : Nat → Nat} {en : Nat → va_E} {N : Nat} {k1 a1 c1 : Nat} {xs : List Nat} (hk1 : k1 < N) (ha1 : a1 < N) (hn1 : k1 ≠ a1) (hc1 : c1 < 2 ^ 31) (g : pL G ad en k1 a1 c1 xs) (hx : xs.length ≤ 10) (hN : 103 ≤ N) {M : Nat → Nat → Int32} (hT : pT G ad en 90 kR 11 M) {q : Nat} (hq : q < xs.length) : zMi l y_R_placeBefore b_R_placeBefore 4 .int 2 G ad en N [.ref (ad (90)), .ref (ad (k1)), .int (nI (q))] (fun v en1 => en1 = en ∧ ((∃ p, p < q ∧ xs.getD p 0 = xs.getD q 0 ∧ (∀ b, p < b → b < q → xs.getD b 0 ≠ xs.getD q 0) ∧ v = nI p) ∨ (v = -1 ∧ ∀ p, p < q → xs.getD p 0 ≠ xs.getD q 0))) := by
  have gg := g
  obtain ⟨e1, g1, g26, f1, e2, g2⟩ := gg
  have tt := hT
  obtain ⟨t1, ⟨tg, t2, t2g⟩, t3⟩ := tt
  refine z_met (by decide) (Nat.le_of_ble_eq_true rfl) ?_
  intro p e s m below meth c ls hF hr hlocks hnam hZ hl
  have hF : CallFix p m c b_R_placeBefore 4 s ([.ref (ad (90)), .ref (ad (k1)), .int (nI (q))] : List Value).toArray zz R_R := hF
  have hl : lv_has ls 4 [(0, .ref (ad (90))), (1, .ref (ad (k1))), (2, .int (nI (q)))] := hl
  have loop : ∀ (c0 : Nat) (H : Heap) (locs : List Loc) (ls : Array Slot), (c0 ≤ q) → (∀ b, c0 ≤ b → b < q → xs.getD b 0 ≠ xs.getD q 0) → lv_has ls 4 [(3, .int (iv c0)), (0, .ref (ad (90))), (1, .ref (ad (k1))), (2, .int (nI (q)))] → zH G ad en N s H locs → W p l e (zR 2) s m ([.ref (ad (90)), .ref (ad (k1)), .int (nI (q))] : List Value).toArray below meth c H locs 0 0 (MQ below (zQi G ad N (fun v en1 => en1 = en ∧ ((∃ p, p < q ∧ xs.getD p 0 = xs.getD q 0 ∧ (∀ b, p < b → b < q → xs.getD b 0 ≠ xs.getD q 0) ∧ v = nI p) ∨ (v = -1 ∧ ∀ p, p < q → xs.getD p 0 ≠ xs.getD q 0)))) ([.ref (ad (90)), .ref (ad (k1)), .int (nI (q))] : List Value).toArray s 0 0 (zA G)) (F0 m 4 ls []) := by
    intro c0
    induction c0 with
    | zero =>
      intro H locs ls hc hno hl hZ
      refine lv_iload_n hF.1 hF.2.1 d_R_placeBefore_4 rfl (lv_at hl 0 rfl) ?_
      refine lv_if_lt (tgt := 29) hF.1 hF.2.1 d_R_placeBefore_5 (by decide) (fun _ => ?_) (fun h => absurd (show iv 0 < 0 by decide) h)
      refine lv_iconst (v := ((-1))) hF.1 hF.2.1 d_R_placeBefore_29 (by decide) ?_
      exact z_iret hF hr hlocks hZ rfl ⟨rfl, Or.inr ⟨rfl, fun p hp => hno p (Nat.zero_le _) hp⟩⟩ d_R_placeBefore_30
    | succ c0 ih =>
      intro H locs ls hc hno hl hZ
      rw [iv_s] at hl
      refine lv_iload_n hF.1 hF.2.1 d_R_placeBefore_4 rfl (lv_at hl 0 rfl) ?_
      refine lv_if_lt (tgt := 29) hF.1 hF.2.1 d_R_placeBefore_5 (by decide) (fun h => absurd h (nI_pos (by omega))) (fun _ => ?_)
      refine lv_aload_n hF.1 hF.2.1 d_R_placeBefore_8 rfl (lv_at hl 2 rfl) ?_
      refine lv_iload_n hF.1 hF.2.1 d_R_placeBefore_9 rfl (lv_at hl 0 rfl) ?_
      refine z_calli hZ (z_run cw_R_30 hF hZ (k1) (c_L_atN l hk1 ha1 hn1 hc1 g (j := c0) (by omega)) (by decide) hk1 e1 rfl rfl hl.1 rfl (Nat.le_of_ble_eq_true rfl) d_R_placeBefore_10) (fun v enq H locs hp hZ => ?_)
      obtain ⟨he, hv⟩ := hp
      subst hv
      have hZ := hZ.to he
      refine lv_aload_n hF.1 hF.2.1 d_R_placeBefore_13 rfl (lv_at hl 2 rfl) ?_
      refine lv_iload_n hF.1 hF.2.1 d_R_placeBefore_14 rfl (lv_at hl 3 rfl) ?_
      refine z_calli hZ (z_run cw_R_30 hF hZ (k1) (c_L_atN l hk1 ha1 hn1 hc1 g (j := q) (by omega)) (by decide) hk1 e1 rfl rfl hl.1 rfl (Nat.le_of_ble_eq_true rfl) d_R_placeBefore_15) (fun v enq H locs hp hZ => ?_)
      obtain ⟨he, hv⟩ := hp
      subst hv
      have hZ := hZ.to he
      refine lv_icmp_ne (tgt := 23) hF.1 hF.2.1 d_R_placeBefore_18 (by decide) (fun y => ?_) (fun y => ?_)
      · have y : xs.getD c0 0 ≠ xs.getD q 0 := fun z => y (by rw [(cd_iff (by omega) (by omega)).mpr z])
        refine lv_iinc (k := 0) (v := (iv c0)) hF.1 hF.2.1 d_R_placeBefore_23 hl rfl (iinc_v c0) (by decide) rfl (fun ls hl => ?_)
        have hl : lv_has ls 4 [(3, .int (iv c0)), (0, .ref (ad (90))), (1, .ref (ad (k1))), (2, .int (nI (q)))] := hl
        refine lv_goto (tgt := 4) hF.1 hF.2.1 d_R_placeBefore_26 (by decide) ?_
        refine ih H locs ls (by omega) (fun b hb hb2 => ?_) hl hZ
        by_cases z : b = c0
        · rw [z]; exact y
        · exact hno b (by omega) hb2
      · have y : xs.getD c0 0 = xs.getD q 0 := (cd_iff (by omega) (by omega)).mp ((iv_eq (wd_cd_26 g26 c0) (wd_cd_26 g26 q)).mp y)
        refine lv_iload_n hF.1 hF.2.1 d_R_placeBefore_21 rfl (lv_at hl 0 rfl) ?_
        exact z_iret hF hr hlocks hZ rfl ⟨rfl, Or.inl ⟨c0, by omega, y, fun b hb hb2 => hno b (by omega) hb2, rfl⟩⟩ d_R_placeBefore_22
  refine lv_iload_n hF.1 hF.2.1 d_R_placeBefore_0 rfl (lv_at hl 2 rfl) ?_
  refine lv_iconst (v := (nI (1))) hF.1 hF.2.1 d_R_placeBefore_1 (by decide) ?_
  refine lv_isub hF.1 hF.2.1 d_R_placeBefore_2 ?_
  refine z_top (y := (iv q)) (show nI q - nI 1 = iv q from rfl) ?_
  refine lv_istore_n hF.1 hF.2.1 d_R_placeBefore_3 rfl hl (by decide) rfl (fun ls hl => ?_)
  have hl : lv_has ls 4 [(3, .int (iv q)), (0, .ref (ad (90))), (1, .ref (ad (k1))), (2, .int (nI (q)))] := hl
  exact loop q _ _ ls (Nat.le_refl _) (fun b hb hb2 => absurd hb2 (by omega)) hl hZ
set_option maxHeartbeats 4000000 in
set_option maxRecDepth 100000 in
theorem c_R_listsWithin (l : Launch) {G : zG} {ad : Nat → Nat} {en : Nat → va_E} {N : Nat} {k1 a1 c1 : Nat} {xs : List Nat} (hk1 : k1 < N) (ha1 : a1 < N) (hn1 : k1 ≠ a1) (hc1 : c1 < 2 ^ 31) (g : pL G ad en k1 a1 c1 xs) (hx : xs.length ≤ 10) (hN : 103 ≤ N) {M : Nat → Nat → Int32} (hT : pT G ad en 90 kR 11 M) {e0 r0 q r : Nat} (he0 : e0 = q + 1) (hr0 : r0 = r + 1) (hq : q < xs.length) (hr10 : r < 10) (hM : ∀ a b, a ≤ q → b ≤ r + 1 → M a b = nI (dr_K xs a b)) : zMi l y_R_listsWithin b_R_listsWithin 7 .int 3 G ad en N [.ref (ad (90)), .ref (ad (k1)), .int (nI (e0)), .int (nI (r0))] (fun v en1 => en1 = en ∧ v = nI (dr_K xs (q + 1) (r + 1))) := by
  have gg := g
  obtain ⟨e1, g1, g26, f1, e2, g2⟩ := gg
  have tt := hT
  obtain ⟨t1, ⟨tg, t2, t2g⟩, t3⟩ := tt
  subst he0
  subst hr0
  have b1 := dr_K_le xs (e := q) (r := r + 1) (by omega) (by omega)
  have b2 := dr_K_le xs (e := q) (r := r) (by omega) (by omega)
  obtain ⟨P, hP1, hP2, hP3⟩ := dr_rec xs g26 q r
  refine z_met (by decide) (Nat.le_of_ble_eq_true rfl) ?_
  intro p e s m below meth c ls hF hr hlocks hnam hZ hl
  have hF : CallFix p m c b_R_listsWithin 7 s ([.ref (ad (90)), .ref (ad (k1)), .int (nI (q + 1)), .int (nI (r + 1))] : List Value).toArray zz R_R := hF
  have hl : lv_has ls 7 [(0, .ref (ad (90))), (1, .ref (ad (k1))), (2, .int (nI (q + 1))), (3, .int (nI (r + 1)))] := hl
  refine lv_iload_n hF.1 hF.2.1 d_R_listsWithin_0 rfl (lv_at hl 2 rfl) ?_
  refine lv_iconst (v := (nI (1))) hF.1 hF.2.1 d_R_listsWithin_1 (by decide) ?_
  refine lv_isub hF.1 hF.2.1 d_R_listsWithin_2 ?_
  refine z_top (y := (nI (q))) (pk_sub (show 1 ≤ q + 1 by omega)) ?_
  refine lv_istore hF.1 hF.2.1 d_R_listsWithin_3 hl (by decide) rfl (fun ls hl => ?_)
  have hl : lv_has ls 7 [(4, .int (nI (q))), (0, .ref (ad (90))), (1, .ref (ad (k1))), (2, .int (nI (q + 1))), (3, .int (nI (r + 1)))] := hl
  refine lv_aload_n hF.1 hF.2.1 d_R_listsWithin_5 rfl (lv_at hl 1 rfl) ?_
  refine gf_R_11 hF hZ (90) (by omega) t1 rfl d_R_listsWithin_6 ?_
  refine lv_iload hF.1 hF.2.1 d_R_listsWithin_9 (lv_at hl 0 rfl) ?_
  refine z_mald hF hZ (90 + 1) (by omega) t2 (q) (by omega) (by omega) (t2g (q) (by omega)) d_R_listsWithin_11 ?_
  refine lv_iload_n hF.1 hF.2.1 d_R_listsWithin_12 rfl (lv_at hl 4 rfl) ?_
  refine z_iald hF hZ (90 + 2 + (q)) (by omega) (t3 (q) (by omega)) (r + 1) (by omega) (by omega) d_R_listsWithin_13 ?_
  refine z_top (y := (nI (dr_K xs q (r + 1)))) (hM q (r + 1) (by omega) (by omega)) ?_
  refine lv_aload_n hF.1 hF.2.1 d_R_listsWithin_14 rfl (lv_at hl 1 rfl) ?_
  refine gf_R_11 hF hZ (90) (by omega) t1 rfl d_R_listsWithin_15 ?_
  refine lv_iload hF.1 hF.2.1 d_R_listsWithin_18 (lv_at hl 0 rfl) ?_
  refine z_mald hF hZ (90 + 1) (by omega) t2 (q) (by omega) (by omega) (t2g (q) (by omega)) d_R_listsWithin_20 ?_
  refine lv_iload_n hF.1 hF.2.1 d_R_listsWithin_21 rfl (lv_at hl 4 rfl) ?_
  refine lv_iconst (v := (nI (1))) hF.1 hF.2.1 d_R_listsWithin_22 (by decide) ?_
  refine lv_isub hF.1 hF.2.1 d_R_listsWithin_23 ?_
  refine z_top (y := (nI (r))) (pk_sub (show 1 ≤ r + 1 by omega)) ?_
  refine z_iald hF hZ (90 + 2 + (q)) (by omega) (t3 (q) (by omega)) (r) (by omega) (by omega) d_R_listsWithin_24 ?_
  refine z_top (y := (nI (dr_K xs q r))) (hM q r (by omega) (by omega)) ?_
  refine lv_iadd hF.1 hF.2.1 d_R_listsWithin_25 ?_
  refine z_top (nI_add (dr_K xs q (r + 1)) (dr_K xs q r)) ?_
  refine lv_istore hF.1 hF.2.1 d_R_listsWithin_26 hl (by decide) rfl (fun ls hl => ?_)
  have hl : lv_has ls 7 [(5, .int (nI (dr_K xs q (r + 1) + dr_K xs q r))), (4, .int (nI (q))), (0, .ref (ad (90))), (1, .ref (ad (k1))), (2, .int (nI (q + 1))), (3, .int (nI (r + 1)))] := hl
  refine lv_aload_n hF.1 hF.2.1 d_R_listsWithin_28 rfl (lv_at hl 2 rfl) ?_
  refine lv_aload_n hF.1 hF.2.1 d_R_listsWithin_29 rfl (lv_at hl 3 rfl) ?_
  refine lv_iload hF.1 hF.2.1 d_R_listsWithin_30 (lv_at hl 1 rfl) ?_
  refine z_calli hZ (z_run cw_R_26 hF hZ (90) (c_R_placeBefore l hk1 ha1 hn1 hc1 g hx hN hT hq) (by decide) (by omega) t1 rfl rfl hl.1 rfl (Nat.le_of_ble_eq_true rfl) d_R_listsWithin_32) (fun v enq H locs hp hZ => ?_)
  obtain ⟨he, hd⟩ := hp
  have hZ := hZ.to he
  rcases hd with ⟨p0, hp1, hp2, hp3, hv⟩ | ⟨hv, hno⟩
  · subst hv
    have b3 := dr_K_le xs (e := p0) (r := r) (by omega) (by omega)
    have hPe := hP3 p0 hp1 hp2 hp3
    refine lv_istore hF.1 hF.2.1 d_R_listsWithin_35 hl (by decide) rfl (fun ls hl => ?_)
    have hl : lv_has ls 7 [(6, .int (nI (p0))), (5, .int (nI (dr_K xs q (r + 1) + dr_K xs q r))), (4, .int (nI (q))), (0, .ref (ad (90))), (1, .ref (ad (k1))), (2, .int (nI (q + 1))), (3, .int (nI (r + 1)))] := hl
    refine lv_iload hF.1 hF.2.1 d_R_listsWithin_37 (lv_at hl 0 rfl) ?_
    refine lv_iconst (v := ((-1))) hF.1 hF.2.1 d_R_listsWithin_39 (by decide) ?_
    refine lv_icmp_ne (tgt := 48) hF.1 hF.2.1 d_R_listsWithin_40 (by decide) (fun _ => ?_) (fun h => absurd h (nI_m1 (by omega)))
    refine lv_iload hF.1 hF.2.1 d_R_listsWithin_48 (lv_at hl 1 rfl) ?_
    refine lv_aload_n hF.1 hF.2.1 d_R_listsWithin_50 rfl (lv_at hl 3 rfl) ?_
    refine gf_R_11 hF hZ (90) (by omega) t1 rfl d_R_listsWithin_51 ?_
    refine lv_iload hF.1 hF.2.1 d_R_listsWithin_54 (lv_at hl 0 rfl) ?_
    refine z_mald hF hZ (90 + 1) (by omega) t2 (p0) (by omega) (by omega) (t2g (p0) (by omega)) d_R_listsWithin_56 ?_
    refine lv_iload_n hF.1 hF.2.1 d_R_listsWithin_57 rfl (lv_at hl 6 rfl) ?_
    refine lv_iconst (v := (nI (1))) hF.1 hF.2.1 d_R_listsWithin_58 (by decide) ?_
    refine lv_isub hF.1 hF.2.1 d_R_listsWithin_59 ?_
    refine z_top (y := (nI (r))) (pk_sub (show 1 ≤ r + 1 by omega)) ?_
    refine z_iald hF hZ (90 + 2 + (p0)) (by omega) (t3 (p0) (by omega)) (r) (by omega) (by omega) d_R_listsWithin_60 ?_
    refine z_top (y := (nI (dr_K xs p0 r))) (hM p0 r (by omega) (by omega)) ?_
    refine lv_isub hF.1 hF.2.1 d_R_listsWithin_61 ?_
    refine z_top (y := (nI (dr_K xs (q + 1) (r + 1)))) ((pk_sub (show dr_K xs p0 r ≤ dr_K xs q (r + 1) + dr_K xs q r by omega)).trans (by congr 1; omega)) ?_
    exact z_iret hF hr hlocks hZ rfl ⟨rfl, rfl⟩ d_R_listsWithin_62
  · subst hv
    have hPe := hP2 hno
    refine lv_istore hF.1 hF.2.1 d_R_listsWithin_35 hl (by decide) rfl (fun ls hl => ?_)
    have hl : lv_has ls 7 [(6, .int ((-1))), (5, .int (nI (dr_K xs q (r + 1) + dr_K xs q r))), (4, .int (nI (q))), (0, .ref (ad (90))), (1, .ref (ad (k1))), (2, .int (nI (q + 1))), (3, .int (nI (r + 1)))] := hl
    refine lv_iload hF.1 hF.2.1 d_R_listsWithin_37 (lv_at hl 0 rfl) ?_
    refine lv_iconst (v := ((-1))) hF.1 hF.2.1 d_R_listsWithin_39 (by decide) ?_
    refine lv_icmp_ne (tgt := 48) hF.1 hF.2.1 d_R_listsWithin_40 (by decide) (fun h => absurd rfl h) (fun _ => ?_)
    refine lv_iload hF.1 hF.2.1 d_R_listsWithin_43 (lv_at hl 1 rfl) ?_
    refine lv_goto (tgt := 62) hF.1 hF.2.1 d_R_listsWithin_45 (by decide) ?_
    exact z_iret hF hr hlocks hZ rfl ⟨rfl, by congr 1; omega⟩ d_R_listsWithin_62
set_option maxHeartbeats 4000000 in
set_option maxRecDepth 100000 in
theorem c_R_listsOf (l : Launch) {G : zG} {ad : Nat → Nat} {en : Nat → va_E} {N : Nat} {k1 a1 c1 : Nat} {xs : List Nat} (hk1 : k1 < N) (ha1 : a1 < N) (hn1 : k1 ≠ a1) (hc1 : c1 < 2 ^ 31) (g : pL G ad en k1 a1 c1 xs) (hx : xs.length ≤ 10) (hN : 103 ≤ N) {M : Nat → Nat → Int32} (hT : pT G ad en 90 kR 11 M) (r1 : k1 < 90 ∨ 103 ≤ k1) (r2 : a1 < 90 ∨ 103 ≤ a1) {wv : Nat} (hw : wv ≤ xs.length) : zMi l y_R_listsOf b_R_listsOf 5 .int 4 G ad en N [.ref (ad (90)), .ref (ad (k1)), .int (nI (wv))] (fun v en1 => v = nI (dr_K xs xs.length wv) ∧ (∃ M1, pT G ad en1 90 kR 11 M1) ∧ ∀ r, r < 90 ∨ 103 ≤ r → en1 r = en r) := by
  refine z_met (by decide) (Nat.le_of_ble_eq_true rfl) ?_
  intro p e s m below meth c ls hF hr hlocks hnam hZ hl
  have hF : CallFix p m c b_R_listsOf 5 s ([.ref (ad (90)), .ref (ad (k1)), .int (nI (wv))] : List Value).toArray zz R_R := hF
  have hl : lv_has ls 5 [(0, .ref (ad (90))), (1, .ref (ad (k1))), (2, .int (nI (wv)))] := hl
  have inner : ∀ (n r q : Nat) (M : Nat → Nat → Int32) (en1 : Nat → va_E) (H : Heap) (locs : List Loc) (ls : Array Slot), r + n = wv → q ≤ xs.length → (pT G ad en1 90 kR 11 M) → (∀ r, r < 90 ∨ 103 ≤ r → en1 r = en r) → (∀ a b, a < q → b ≤ wv → M a b = nI (dr_K xs a b)) → (∀ b, b ≤ r → M q b = nI (dr_K xs q b)) → (∀ (M : Nat → Nat → Int32) (en1 : Nat → va_E) (H : Heap) (locs : List Loc) (ls : Array Slot), (pT G ad en1 90 kR 11 M) → (∀ r, r < 90 ∨ 103 ≤ r → en1 r = en r) → (∀ a b, a ≤ q → b ≤ wv → M a b = nI (dr_K xs a b)) → lv_has ls 5 [(4, .int (nI (wv + 1))), (3, .int (nI (q))), (0, .ref (ad (90))), (1, .ref (ad (k1))), (2, .int (nI (wv)))] → zH G ad en1 N s H locs → W p l e (zR 4) s m ([.ref (ad (90)), .ref (ad (k1)), .int (nI (wv))] : List Value).toArray below meth c H locs 0 0 (MQ below (zQi G ad N (fun v en1 => v = nI (dr_K xs xs.length wv) ∧ (∃ M1, pT G ad en1 90 kR 11 M1) ∧ ∀ r, r < 90 ∨ 103 ≤ r → en1 r = en r)) ([.ref (ad (90)), .ref (ad (k1)), .int (nI (wv))] : List Value).toArray s 0 0 (zA G)) (F0 m 59 ls [])) → lv_has ls 5 [(4, .int (nI (r + 1))), (3, .int (nI (q))), (0, .ref (ad (90))), (1, .ref (ad (k1))), (2, .int (nI (wv)))] → zH G ad en1 N s H locs → W p l e (zR 4) s m ([.ref (ad (90)), .ref (ad (k1)), .int (nI (wv))] : List Value).toArray below meth c H locs 0 0 (MQ below (zQi G ad N (fun v en1 => v = nI (dr_K xs xs.length wv) ∧ (∃ M1, pT G ad en1 90 kR 11 M1) ∧ ∀ r, r < 90 ∨ 103 ≤ r → en1 r = en r)) ([.ref (ad (90)), .ref (ad (k1)), .int (nI (wv))] : List Value).toArray s 0 0 (zA G)) (F0 m 22 ls []) := by
    intro n
    induction n with
    | zero =>
      intro r q M en1 H locs ls hin hq hT hfr hM1 hM2 K hl hZ
      refine lv_iload hF.1 hF.2.1 d_R_listsOf_22 (lv_at hl 0 rfl) ?_
      refine lv_iload_n hF.1 hF.2.1 d_R_listsOf_24 rfl (lv_at hl 4 rfl) ?_
      refine lv_icmp_gt (tgt := 59) hF.1 hF.2.1 d_R_listsOf_25 (by decide) (fun _ => ?_) (fun h => absurd (nI_lt (show wv < r + 1 by omega) (by omega)) h)
      have hrw : r = wv := by omega
      subst hrw
      refine K M en1 H locs ls hT hfr (fun a b ha hb => ?_) hl hZ
      by_cases z : a = q
      · subst z; exact hM2 b hb
      · exact hM1 a b (by omega) hb
    | succ n ih =>
      intro r q M en1 H locs ls hin hq hT hfr hM1 hM2 K hl hZ
      have g0 := g.keep (hfr k1 r1) (hfr a1 r2)
      have gg := g0
      obtain ⟨e1, g1, g26, f1, e2, g2⟩ := gg
      have tt := hT
      obtain ⟨t1, ⟨tg, t2, t2g⟩, t3⟩ := tt
      refine lv_iload hF.1 hF.2.1 d_R_listsOf_22 (lv_at hl 0 rfl) ?_
      refine lv_iload_n hF.1 hF.2.1 d_R_listsOf_24 rfl (lv_at hl 4 rfl) ?_
      refine lv_icmp_gt (tgt := 59) hF.1 hF.2.1 d_R_listsOf_25 (by decide) (fun h => absurd h (nI_nlt (show r + 1 ≤ wv by omega) (by omega))) (fun _ => ?_)
      refine lv_aload_n hF.1 hF.2.1 d_R_listsOf_28 rfl (lv_at hl 2 rfl) ?_
      refine gf_R_11 hF hZ (90) (by omega) t1 rfl d_R_listsOf_29 ?_
      refine lv_iload_n hF.1 hF.2.1 d_R_listsOf_32 rfl (lv_at hl 1 rfl) ?_
      refine z_mald hF hZ (90 + 1) (by omega) t2 (q) (by omega) (by omega) (t2g (q) (by omega)) d_R_listsOf_33 ?_
      refine lv_iload hF.1 hF.2.1 d_R_listsOf_34 (lv_at hl 0 rfl) ?_
      refine lv_iload_n hF.1 hF.2.1 d_R_listsOf_36 rfl (lv_at hl 1 rfl) ?_
      refine lv_if_ne (tgt := 44) hF.1 hF.2.1 d_R_listsOf_37 (by decide) (fun y => ?_) (fun y => ?_)
      · have y : ¬ q = 0 := fun z => y (by rw [z]; rfl)
        refine lv_aload_n hF.1 hF.2.1 d_R_listsOf_44 rfl (lv_at hl 2 rfl) ?_
        refine lv_aload_n hF.1 hF.2.1 d_R_listsOf_45 rfl (lv_at hl 3 rfl) ?_
        refine lv_iload_n hF.1 hF.2.1 d_R_listsOf_46 rfl (lv_at hl 1 rfl) ?_
        refine lv_iload hF.1 hF.2.1 d_R_listsOf_47 (lv_at hl 0 rfl) ?_
        refine z_calli hZ (z_run cw_R_22 hF hZ (90) (c_R_listsWithin l hk1 ha1 hn1 hc1 g0 hx hN hT (e0 := q) (r0 := r + 1) (q := q - 1) (r := r) (by omega) rfl (by omega) (by omega) (fun a b ha hb => hM1 a b (by omega) (by omega))) (by decide) (by omega) t1 rfl rfl hl.1 rfl (Nat.le_of_ble_eq_true rfl) d_R_listsOf_49) (fun v enq H locs hp hZ => ?_)
        obtain ⟨he, hv⟩ := hp
        subst hv
        have hZ := hZ.to he
        have hval : nI (dr_K xs (q - 1 + 1) (r + 1)) = nI (dr_K xs q (r + 1)) := by rw [show q - 1 + 1 = q by omega]
        refine z_iast hF hZ (90 + 2 + (q)) (by omega) (t3 (q) (by omega)) (r + 1) (by omega) (by omega) d_R_listsOf_52 (fun H locs hZ => ?_)
        obtain ⟨ze1, hn2⟩ : ∃ z, z = va_up en1 (90 + 2 + (q)) (.inl (zI G, 11, .inl (upd (M (q)) (r + 1) (nI (dr_K xs (q - 1 + 1) (r + 1)))))) := ⟨_, rfl⟩
        have hZ : zH G ad ze1 N s H locs := hZ.to hn2.symm
        have ff3 : ze1 (k1) = .inr (kL, [.ref (ad (a1)), .int (nI (xs.length))]) := by rw [hn2, va_up_ne _ _ (by omega)]; exact e1
        have ff4 : ze1 (a1) = .inl (zI G, c1, .inl (f1)) := by rw [hn2, va_up_ne _ _ (by omega)]; exact e2
        have ff5 : ze1 (90) = .inr (kR, [.ref (ad (90 + 1))]) := by rw [hn2, va_up_ne _ _ (by omega)]; exact t1
        have ff6 : ze1 (90 + 1) = .inl (zM G, 11, z_refs tg) := by rw [hn2, va_up_ne _ _ (by omega)]; exact t2
        have ff7 : ze1 (90 + 2 + (q)) = .inl (zI G, 11, .inl (upd (M (q)) (r + 1) (nI (dr_K xs (q - 1 + 1) (r + 1))))) := by rw [hn2]; exact va_up_self _ _ _
        have hT3 : pT G ad ze1 90 kR 11 (tset M q (r + 1) (nI (dr_K xs (q - 1 + 1) (r + 1)))) := by rw [hn2]; exact hT.set (by omega)
        refine lv_iinc (k := 0) (v := (nI (r + 1 + 1))) hF.1 hF.2.1 d_R_listsOf_53 hl rfl (iinc_p (r + 1)) (by decide) rfl (fun ls hl => ?_)
        have hl : lv_has ls 5 [(4, .int (nI (r + 1 + 1))), (3, .int (nI (q))), (0, .ref (ad (90))), (1, .ref (ad (k1))), (2, .int (nI (wv)))] := hl
        refine lv_goto (tgt := 22) hF.1 hF.2.1 d_R_listsOf_56 (by decide) ?_
        refine ih (r + 1) q (tset M q (r + 1) (nI (dr_K xs (q - 1 + 1) (r + 1)))) ze1 H locs ls (by omega) hq hT3 (fun a ha => ?_) (fun a b ha hb => ?_) (fun b hb => ?_) K hl hZ
        · rw [hn2, va_up_ne _ _ (by omega)]; exact hfr a ha
        · unfold tset; rw [if_neg (by omega)]; exact hM1 a b ha hb
        · unfold tset
          by_cases y : b = r + 1
          · subst y; rw [if_pos ⟨rfl, rfl⟩, hval]
          · rw [if_neg (fun u => y u.2)]; exact hM2 b (by omega)
      · have y : q = 0 := (nI_eq (by omega) (by omega)).mp y
        refine lv_iconst (v := (nI (0))) hF.1 hF.2.1 d_R_listsOf_40 (by decide) ?_
        refine lv_goto (tgt := 52) hF.1 hF.2.1 d_R_listsOf_41 (by decide) ?_
        have hval : nI 0 = nI (dr_K xs q (r + 1)) := by rw [y, dr_K00]
        refine z_iast hF hZ (90 + 2 + (q)) (by omega) (t3 (q) (by omega)) (r + 1) (by omega) (by omega) d_R_listsOf_52 (fun H locs hZ => ?_)
        obtain ⟨ze8, hn9⟩ : ∃ z, z = va_up en1 (90 + 2 + (q)) (.inl (zI G, 11, .inl (upd (M (q)) (r + 1) (nI (0))))) := ⟨_, rfl⟩
        have hZ : zH G ad ze8 N s H locs := hZ.to hn9.symm
        have ff10 : ze8 (k1) = .inr (kL, [.ref (ad (a1)), .int (nI (xs.length))]) := by rw [hn9, va_up_ne _ _ (by omega)]; exact e1
        have ff11 : ze8 (a1) = .inl (zI G, c1, .inl (f1)) := by rw [hn9, va_up_ne _ _ (by omega)]; exact e2
        have ff12 : ze8 (90) = .inr (kR, [.ref (ad (90 + 1))]) := by rw [hn9, va_up_ne _ _ (by omega)]; exact t1
        have ff13 : ze8 (90 + 1) = .inl (zM G, 11, z_refs tg) := by rw [hn9, va_up_ne _ _ (by omega)]; exact t2
        have ff14 : ze8 (90 + 2 + (q)) = .inl (zI G, 11, .inl (upd (M (q)) (r + 1) (nI (0)))) := by rw [hn9]; exact va_up_self _ _ _
        have hT3 : pT G ad ze8 90 kR 11 (tset M q (r + 1) (nI (0))) := by rw [hn9]; exact hT.set (by omega)
        refine lv_iinc (k := 0) (v := (nI (r + 1 + 1))) hF.1 hF.2.1 d_R_listsOf_53 hl rfl (iinc_p (r + 1)) (by decide) rfl (fun ls hl => ?_)
        have hl : lv_has ls 5 [(4, .int (nI (r + 1 + 1))), (3, .int (nI (q))), (0, .ref (ad (90))), (1, .ref (ad (k1))), (2, .int (nI (wv)))] := hl
        refine lv_goto (tgt := 22) hF.1 hF.2.1 d_R_listsOf_56 (by decide) ?_
        refine ih (r + 1) q (tset M q (r + 1) (nI (0))) ze8 H locs ls (by omega) hq hT3 (fun a ha => ?_) (fun a b ha hb => ?_) (fun b hb => ?_) K hl hZ
        · rw [hn9, va_up_ne _ _ (by omega)]; exact hfr a ha
        · unfold tset; rw [if_neg (by omega)]; exact hM1 a b ha hb
        · unfold tset
          by_cases y : b = r + 1
          · subst y; rw [if_pos ⟨rfl, rfl⟩, hval]
          · rw [if_neg (fun u => y u.2)]; exact hM2 b (by omega)
  have outer : ∀ (n q : Nat) (M : Nat → Nat → Int32) (en1 : Nat → va_E) (H : Heap) (locs : List Loc) (ls : Array Slot), (q + n = xs.length + 1) → (pT G ad en1 90 kR 11 M) → (∀ r, r < 90 ∨ 103 ≤ r → en1 r = en r) → (∀ a b, a < q → b ≤ wv → M a b = nI (dr_K xs a b)) → lv_has ls 5 [(3, .int (nI (q))), (0, .ref (ad (90))), (1, .ref (ad (k1))), (2, .int (nI (wv)))] → zH G ad en1 N s H locs → W p l e (zR 4) s m ([.ref (ad (90)), .ref (ad (k1)), .int (nI (wv))] : List Value).toArray below meth c H locs 0 0 (MQ below (zQi G ad N (fun v en1 => v = nI (dr_K xs xs.length wv) ∧ (∃ M1, pT G ad en1 90 kR 11 M1) ∧ ∀ r, r < 90 ∨ 103 ≤ r → en1 r = en r)) ([.ref (ad (90)), .ref (ad (k1)), .int (nI (wv))] : List Value).toArray s 0 0 (zA G)) (F0 m 2 ls []) := by
    intro n
    induction n with
    | zero =>
      intro q M en1 H locs ls hin hT hfr hM hl hZ
      have g0 := g.keep (hfr k1 r1) (hfr a1 r2)
      have gg := g0
      obtain ⟨e1, g1, g26, f1, e2, g2⟩ := gg
      have tt := hT
      obtain ⟨t1, ⟨tg, t2, t2g⟩, t3⟩ := tt
      refine lv_iload_n hF.1 hF.2.1 d_R_listsOf_2 rfl (lv_at hl 0 rfl) ?_
      refine lv_aload_n hF.1 hF.2.1 d_R_listsOf_3 rfl (lv_at hl 2 rfl) ?_
      refine gf_R_16 hF hZ (k1) hk1 e1 rfl d_R_listsOf_4 ?_
      refine lv_icmp_gt (tgt := 65) hF.1 hF.2.1 d_R_listsOf_7 (by decide) (fun _ => ?_) (fun h => absurd (nI_lt (show xs.length < q by omega) (by omega)) h)
      refine lv_aload_n hF.1 hF.2.1 d_R_listsOf_65 rfl (lv_at hl 1 rfl) ?_
      refine gf_R_11 hF hZ (90) (by omega) t1 rfl d_R_listsOf_66 ?_
      refine lv_aload_n hF.1 hF.2.1 d_R_listsOf_69 rfl (lv_at hl 2 rfl) ?_
      refine gf_R_16 hF hZ (k1) hk1 e1 rfl d_R_listsOf_70 ?_
      refine z_mald hF hZ (90 + 1) (by omega) t2 (xs.length) (by omega) (by omega) (t2g (xs.length) (by omega)) d_R_listsOf_73 ?_
      refine lv_iload_n hF.1 hF.2.1 d_R_listsOf_74 rfl (lv_at hl 3 rfl) ?_
      refine z_iald hF hZ (90 + 2 + (xs.length)) (by omega) (t3 (xs.length) (by omega)) (wv) (by omega) (by omega) d_R_listsOf_75 ?_
      exact z_iret hF hr hlocks hZ rfl ⟨hM _ _ (by omega) (Nat.le_refl _), ⟨M, hT⟩, hfr⟩ d_R_listsOf_76
    | succ n ih =>
      intro q M en1 H locs ls hin hT hfr hM hl hZ
      have g0 := g.keep (hfr k1 r1) (hfr a1 r2)
      have gg := g0
      obtain ⟨e1, g1, g26, f1, e2, g2⟩ := gg
      have tt := hT
      obtain ⟨t1, ⟨tg, t2, t2g⟩, t3⟩ := tt
      refine lv_iload_n hF.1 hF.2.1 d_R_listsOf_2 rfl (lv_at hl 0 rfl) ?_
      refine lv_aload_n hF.1 hF.2.1 d_R_listsOf_3 rfl (lv_at hl 2 rfl) ?_
      refine gf_R_16 hF hZ (k1) hk1 e1 rfl d_R_listsOf_4 ?_
      refine lv_icmp_gt (tgt := 65) hF.1 hF.2.1 d_R_listsOf_7 (by decide) (fun h => absurd h (nI_nlt (show q ≤ xs.length by omega) (by omega))) (fun _ => ?_)
      refine lv_aload_n hF.1 hF.2.1 d_R_listsOf_10 rfl (lv_at hl 1 rfl) ?_
      refine gf_R_11 hF hZ (90) (by omega) t1 rfl d_R_listsOf_11 ?_
      refine lv_iload_n hF.1 hF.2.1 d_R_listsOf_14 rfl (lv_at hl 0 rfl) ?_
      refine z_mald hF hZ (90 + 1) (by omega) t2 (q) (by omega) (by omega) (t2g (q) (by omega)) d_R_listsOf_15 ?_
      refine lv_iconst (v := (nI (0))) hF.1 hF.2.1 d_R_listsOf_16 (by decide) ?_
      refine lv_iconst (v := (nI (1))) hF.1 hF.2.1 d_R_listsOf_17 (by decide) ?_
      refine z_iast hF hZ (90 + 2 + (q)) (by omega) (t3 (q) (by omega)) (0) (by omega) (by omega) d_R_listsOf_18 (fun H locs hZ => ?_)
      obtain ⟨ze15, hn16⟩ : ∃ z, z = va_up en1 (90 + 2 + (q)) (.inl (zI G, 11, .inl (upd (M (q)) (0) (nI (1))))) := ⟨_, rfl⟩
      have hZ : zH G ad ze15 N s H locs := hZ.to hn16.symm
      have ff17 : ze15 (k1) = .inr (kL, [.ref (ad (a1)), .int (nI (xs.length))]) := by rw [hn16, va_up_ne _ _ (by omega)]; exact e1
      have ff18 : ze15 (a1) = .inl (zI G, c1, .inl (f1)) := by rw [hn16, va_up_ne _ _ (by omega)]; exact e2
      have ff19 : ze15 (90) = .inr (kR, [.ref (ad (90 + 1))]) := by rw [hn16, va_up_ne _ _ (by omega)]; exact t1
      have ff20 : ze15 (90 + 1) = .inl (zM G, 11, z_refs tg) := by rw [hn16, va_up_ne _ _ (by omega)]; exact t2
      have ff21 : ze15 (90 + 2 + (q)) = .inl (zI G, 11, .inl (upd (M (q)) (0) (nI (1)))) := by rw [hn16]; exact va_up_self _ _ _
      have hT3 : pT G ad ze15 90 kR 11 (tset M q 0 (nI (1))) := by rw [hn16]; exact hT.set (by omega)
      refine lv_iconst (v := (nI (1))) hF.1 hF.2.1 d_R_listsOf_19 (by decide) ?_
      refine lv_istore hF.1 hF.2.1 d_R_listsOf_20 hl (by decide) rfl (fun ls hl => ?_)
      have hl : lv_has ls 5 [(4, .int (nI (1))), (3, .int (nI (q))), (0, .ref (ad (90))), (1, .ref (ad (k1))), (2, .int (nI (wv)))] := hl
      refine inner wv 0 q (tset M q 0 (nI (1))) ze15 H locs ls (by omega) (by omega) hT3 (fun a ha => ?_) (fun a b ha hb => ?_) (fun b hb => ?_) (fun M3 en3 H locs ls hT hfr hM3 hl hZ => ?_) hl hZ
      · rw [hn16, va_up_ne _ _ (by omega)]; exact hfr a ha
      · unfold tset; rw [if_neg (by omega)]; exact hM a b ha hb
      · have hb0 : b = 0 := by omega
        subst hb0
        unfold tset; rw [if_pos ⟨rfl, rfl⟩, dr_K0]
      · refine lv_iinc (k := 1) (v := (nI (q + 1))) hF.1 hF.2.1 d_R_listsOf_59 hl rfl (iinc_p (q)) (by decide) rfl (fun ls hl => ?_)
        have hl : lv_has ls 5 [(3, .int (nI (q + 1))), (4, .int (nI (wv + 1))), (0, .ref (ad (90))), (1, .ref (ad (k1))), (2, .int (nI (wv)))] := hl
        refine lv_goto (tgt := 2) hF.1 hF.2.1 d_R_listsOf_62 (by decide) ?_
        exact ih (q + 1) M3 en3 H locs ls (by omega) hT hfr (fun a b ha hb => hM3 a b (by omega) hb) (lv_sub hl [0, 2, 3, 4] rfl) hZ
  refine lv_iconst (v := (nI (0))) hF.1 hF.2.1 d_R_listsOf_0 (by decide) ?_
  refine lv_istore_n hF.1 hF.2.1 d_R_listsOf_1 rfl hl (by decide) rfl (fun ls hl => ?_)
  have hl : lv_has ls 5 [(3, .int (nI (0))), (0, .ref (ad (90))), (1, .ref (ad (k1))), (2, .int (nI (wv)))] := hl
  exact outer (xs.length + 1) 0 M en _ _ ls (by omega) hT (fun _ _ => rfl) (fun a b ha => absurd ha (Nat.not_lt_zero _)) hl hZ
end
section
/-! the desk's picture under changes of its parts -/
theorem pS.inp {G : zG} {ad : Nat → Nat} {en en1 : Nat → va_E} {T T1 : List Nat} {sg : Nat → Nat} {C : List wd_W} (h : pS G ad en T sg C) (hL : pL G ad en1 1 2 10 T1) (hfr : ∀ r, r ≠ 1 → r ≠ 2 → en1 r = en r) : pS G ad en1 T1 sg C := by
  obtain ⟨s0, sL, sD, ⟨ME, sE⟩, ⟨MR, sR⟩, fd, sF⟩ := h
  exact ⟨by rw [hfr 0 (by omega) (by omega)]; exact s0, hL, sD.keep (fun r h1 h2 => hfr r (by omega) (by omega)), ⟨ME, sE.keep (fun r h1 h2 => hfr r (by omega) (by omega))⟩, ⟨MR, sR.keep (fun r h1 h2 => hfr r (by omega) (by omega))⟩, fd, by rw [hfr 103 (by omega) (by omega)]; exact sF⟩
theorem pS.dic {G : zG} {ad : Nat → Nat} {en en1 : Nat → va_E} {T : List Nat} {sg sg1 : Nat → Nat} {C C1 : List wd_W} (h : pS G ad en T sg C) (hD : pD G ad en1 sg1 C1) (hfr : ∀ r, r < 3 ∨ 77 ≤ r → en1 r = en r) : pS G ad en1 T sg1 C1 := by
  obtain ⟨s0, sL, sD, ⟨ME, sE⟩, ⟨MR, sR⟩, fd, sF⟩ := h
  exact ⟨by rw [hfr 0 (by omega)]; exact s0, sL.keep (hfr 1 (by omega)) (hfr 2 (by omega)), hD, ⟨ME, sE.keep (fun r h1 h2 => hfr r (by omega))⟩, ⟨MR, sR.keep (fun r h1 h2 => hfr r (by omega))⟩, fd, by rw [hfr 103 (by omega)]; exact sF⟩
theorem pS.edt {G : zG} {ad : Nat → Nat} {en en1 : Nat → va_E} {T : List Nat} {sg : Nat → Nat} {C : List wd_W} (h : pS G ad en T sg C) {M : Nat → Nat → Int32} (hE : pT G ad en1 77 kE 9 M) (hfr : ∀ r, r < 77 ∨ 90 ≤ r → en1 r = en r) : pS G ad en1 T sg C := by
  obtain ⟨s0, sL, sD, ⟨ME, sE⟩, ⟨MR, sR⟩, fd, sF⟩ := h
  exact ⟨by rw [hfr 0 (by omega)]; exact s0, sL.keep (hfr 1 (by omega)) (hfr 2 (by omega)), sD.keep (fun r h1 h2 => hfr r (by omega)), ⟨M, hE⟩, ⟨MR, sR.keep (fun r h1 h2 => hfr r (by omega))⟩, fd, by rw [hfr 103 (by omega)]; exact sF⟩
theorem pS.drp {G : zG} {ad : Nat → Nat} {en en1 : Nat → va_E} {T : List Nat} {sg : Nat → Nat} {C : List wd_W} (h : pS G ad en T sg C) {M : Nat → Nat → Int32} (hE : pT G ad en1 90 kR 11 M) (hfr : ∀ r, r < 90 ∨ 103 ≤ r → en1 r = en r) : pS G ad en1 T sg C := by
  obtain ⟨s0, sL, sD, ⟨ME, sE⟩, ⟨MR, sR⟩, fd, sF⟩ := h
  exact ⟨by rw [hfr 0 (by omega)]; exact s0, sL.keep (hfr 1 (by omega)) (hfr 2 (by omega)), sD.keep (fun r h1 h2 => hfr r (by omega)), ⟨ME, sE.keep (fun r h1 h2 => hfr r (by omega))⟩, ⟨M, hE⟩, fd, by rw [hfr 103 (by omega)]; exact sF⟩
theorem pS.dst {G : zG} {ad : Nat → Nat} {en en1 : Nat → va_E} {T : List Nat} {sg : Nat → Nat} {C : List wd_W} (h : pS G ad en T sg C) {f : Nat → Int32} (hE : en1 103 = .inl (zI G, 24, .inl f)) (hfr : ∀ r, r ≠ 103 → en1 r = en r) : pS G ad en1 T sg C := by
  obtain ⟨s0, sL, sD, ⟨ME, sE⟩, ⟨MR, sR⟩, fd, sF⟩ := h
  exact ⟨by rw [hfr 0 (by omega)]; exact s0, sL.keep (hfr 1 (by omega)) (hfr 2 (by omega)), sD.keep (fun r h1 h2 => hfr r (by omega)), ⟨ME, sE.keep (fun r h1 h2 => hfr r (by omega))⟩, ⟨MR, sR.keep (fun r h1 h2 => hfr r (by omega))⟩, f, hE⟩
/-- how far a word is from what is typed -/
def dist (T : List Nat) (u : wd_W) : Nat := ed_d T u.1 0 0
theorem bI_1 {b : Bool} (h : ¬ bI b = 0) : b = true := by cases b with
  | false => exact absurd rfl h
  | true => rfl
set_option maxHeartbeats 4000000 in
set_option maxRecDepth 100000 in
theorem c_S_key (l : Launch) {G : zG} {ad : Nat → Nat} {en : Nat → va_E} {N : Nat} {T : List Nat} {sg : Nat → Nat} {C : List wd_W} (hN : 104 ≤ N) (h : pS G ad en T sg C) {x : Nat} (hx : x < 26) (hlen : T.length < 10) : zMi l y_S_key b_S_key 2 .boolean 2 G ad en N [.ref (ad (0)), .int (nI (x))] (fun v en1 => v = 1 ∧ pS G ad en1 (T ++ [x]) sg C ∧ ∀ r, 104 ≤ r → en1 r = en r) := by
  have hh := h
  obtain ⟨s0, sL, sD, ⟨ME, sE⟩, ⟨MR, sR⟩, fd, sF⟩ := hh
  have hsL := sL
  obtain ⟨e1, l1, l26, f1, e2, l2⟩ := hsL
  have hsD := sD
  obtain ⟨d1, d2, ⟨g0, d3, d3g⟩, d4, d5, d6, d7⟩ := hsD
  refine z_met (by decide) (Nat.le_of_ble_eq_true rfl) ?_
  intro p e s m below meth c ls hF hr hlocks hnam hZ hl
  have hF : CallFix p m c b_S_key 2 s ([.ref (ad (0)), .int (nI (x))] : List Value).toArray zz R_S := hF
  have hl : lv_has ls 2 [(0, .ref (ad (0))), (1, .int (nI (x)))] := hl
  refine lv_aload_n hF.1 hF.2.1 d_S_key_0 rfl (lv_at hl 0 rfl) ?_
  refine gf_S_14 hF hZ (0) (by omega) s0 rfl d_S_key_1 ?_
  refine lv_iload_n hF.1 hF.2.1 d_S_key_4 rfl (lv_at hl 1 rfl) ?_
  refine z_calli hZ (z_run cw_S_43 hF hZ (1) (c_L_append l (k := 1) (ka := 2) (by omega) (by omega) (by omega) (by omega) sL hx hlen) (by decide) (by omega) e1 rfl rfl hl.1 rfl (Nat.le_of_ble_eq_true rfl) d_S_key_5) (fun v en1 H locs hq hZ => ?_)
  obtain ⟨hv, hq1, hq2⟩ := hq
  subst hv
  exact z_iret hF hr hlocks hZ (by decide) ⟨rfl, h.inp hq1 hq2, fun r hr => hq2 r (by omega) (by omega)⟩ d_S_key_8
set_option maxHeartbeats 4000000 in
set_option maxRecDepth 100000 in
theorem c_S_keyNo (l : Launch) {G : zG} {ad : Nat → Nat} {en : Nat → va_E} {N : Nat} {T : List Nat} {sg : Nat → Nat} {C : List wd_W} (hN : 104 ≤ N) (h : pS G ad en T sg C) {x : Int32} (hno : x < 0 ∨ nI 26 ≤ x ∨ 10 ≤ T.length) : zMi l y_S_key b_S_key 2 .boolean 2 G ad en N [.ref (ad (0)), .int (x)] (fun v en1 => v = 0 ∧ en1 = en) := by
  have hh := h
  obtain ⟨s0, sL, sD, ⟨ME, sE⟩, ⟨MR, sR⟩, fd, sF⟩ := hh
  have hsL := sL
  obtain ⟨e1, l1, l26, f1, e2, l2⟩ := hsL
  have hsD := sD
  obtain ⟨d1, d2, ⟨g0, d3, d3g⟩, d4, d5, d6, d7⟩ := hsD
  refine z_met (by decide) (Nat.le_of_ble_eq_true rfl) ?_
  intro p e s m below meth c ls hF hr hlocks hnam hZ hl
  have hF : CallFix p m c b_S_key 2 s ([.ref (ad (0)), .int (x)] : List Value).toArray zz R_S := hF
  have hl : lv_has ls 2 [(0, .ref (ad (0))), (1, .int (x))] := hl
  refine lv_aload_n hF.1 hF.2.1 d_S_key_0 rfl (lv_at hl 0 rfl) ?_
  refine gf_S_14 hF hZ (0) (by omega) s0 rfl d_S_key_1 ?_
  refine lv_iload_n hF.1 hF.2.1 d_S_key_4 rfl (lv_at hl 1 rfl) ?_
  refine z_calli hZ (z_run cw_S_43 hF hZ (1) (c_L_appendNo l (k := 1) (ka := 2) (by omega) (by omega) (by omega) (by omega) sL hno) (by decide) (by omega) e1 rfl rfl hl.1 rfl (Nat.le_of_ble_eq_true rfl) d_S_key_5) (fun v en1 H locs hq hZ => ?_)
  obtain ⟨hv, hq1⟩ := hq
  subst hv
  exact z_iret hF hr hlocks hZ (by decide) ⟨rfl, hq1⟩ d_S_key_8
set_option maxHeartbeats 4000000 in
set_option maxRecDepth 100000 in
theorem c_S_back (l : Launch) {G : zG} {ad : Nat → Nat} {en : Nat → va_E} {N : Nat} {T : List Nat} {sg : Nat → Nat} {C : List wd_W} (hN : 104 ≤ N) (h : pS G ad en T sg C) (hlen : 0 < T.length) : zMi l y_S_back b_S_back 1 .boolean 2 G ad en N [.ref (ad (0))] (fun v en1 => v = 1 ∧ pS G ad en1 (T.take (T.length - 1)) sg C ∧ ∀ r, 104 ≤ r → en1 r = en r) := by
  have hh := h
  obtain ⟨s0, sL, sD, ⟨ME, sE⟩, ⟨MR, sR⟩, fd, sF⟩ := hh
  have hsL := sL
  obtain ⟨e1, l1, l26, f1, e2, l2⟩ := hsL
  have hsD := sD
  obtain ⟨d1, d2, ⟨g0, d3, d3g⟩, d4, d5, d6, d7⟩ := hsD
  refine z_met (by decide) (Nat.le_of_ble_eq_true rfl) ?_
  intro p e s m below meth c ls hF hr hlocks hnam hZ hl
  have hF : CallFix p m c b_S_back 1 s ([.ref (ad (0))] : List Value).toArray zz R_S := hF
  have hl : lv_has ls 1 [(0, .ref (ad (0)))] := hl
  refine lv_aload_n hF.1 hF.2.1 d_S_back_0 rfl (lv_at hl 0 rfl) ?_
  refine gf_S_14 hF hZ (0) (by omega) s0 rfl d_S_back_1 ?_
  refine z_calli hZ (z_run cw_S_47 hF hZ (1) (c_L_removeLast l (k := 1) (ka := 2) (by omega) (by omega) (by omega) (by omega) sL hlen) (by decide) (by omega) e1 rfl rfl hl.1 rfl (Nat.le_of_ble_eq_true rfl) d_S_back_4) (fun v en1 H locs hq hZ => ?_)
  obtain ⟨hv, hq1, hq2⟩ := hq
  subst hv
  exact z_iret hF hr hlocks hZ (by decide) ⟨rfl, h.inp hq1 (fun r q1 _ => hq2 r q1), fun r hr => hq2 r (by omega)⟩ d_S_back_7
set_option maxHeartbeats 4000000 in
set_option maxRecDepth 100000 in
theorem c_S_backNo (l : Launch) {G : zG} {ad : Nat → Nat} {en : Nat → va_E} {N : Nat} {T : List Nat} {sg : Nat → Nat} {C : List wd_W} (hN : 104 ≤ N) (h : pS G ad en T sg C) (hlen : T.length = 0) : zMi l y_S_back b_S_back 1 .boolean 2 G ad en N [.ref (ad (0))] (fun v en1 => v = 0 ∧ en1 = en) := by
  have hh := h
  obtain ⟨s0, sL, sD, ⟨ME, sE⟩, ⟨MR, sR⟩, fd, sF⟩ := hh
  have hsL := sL
  obtain ⟨e1, l1, l26, f1, e2, l2⟩ := hsL
  have hsD := sD
  obtain ⟨d1, d2, ⟨g0, d3, d3g⟩, d4, d5, d6, d7⟩ := hsD
  refine z_met (by decide) (Nat.le_of_ble_eq_true rfl) ?_
  intro p e s m below meth c ls hF hr hlocks hnam hZ hl
  have hF : CallFix p m c b_S_back 1 s ([.ref (ad (0))] : List Value).toArray zz R_S := hF
  have hl : lv_has ls 1 [(0, .ref (ad (0)))] := hl
  refine lv_aload_n hF.1 hF.2.1 d_S_back_0 rfl (lv_at hl 0 rfl) ?_
  refine gf_S_14 hF hZ (0) (by omega) s0 rfl d_S_back_1 ?_
  refine z_calli hZ (z_run cw_S_47 hF hZ (1) (c_L_removeLastNo l (k := 1) (ka := 2) (by omega) (by omega) (by omega) (by omega) sL hlen) (by decide) (by omega) e1 rfl rfl hl.1 rfl (Nat.le_of_ble_eq_true rfl) d_S_back_4) (fun v en1 H locs hq hZ => ?_)
  obtain ⟨hv, hq1⟩ := hq
  subst hv
  exact z_iret hF hr hlocks hZ (by decide) ⟨rfl, hq1⟩ d_S_back_7
set_option maxHeartbeats 4000000 in
set_option maxRecDepth 100000 in
theorem c_S_wipe (l : Launch) {G : zG} {ad : Nat → Nat} {en : Nat → va_E} {N : Nat} {T : List Nat} {sg : Nat → Nat} {C : List wd_W} (hN : 104 ≤ N) (h : pS G ad en T sg C) : zMv l y_S_wipe b_S_wipe 1 2 G ad en N [.ref (ad (0))] (fun en1 => pS G ad en1 [] sg C ∧ ∀ r, 104 ≤ r → en1 r = en r) := by
  have hh := h
  obtain ⟨s0, sL, sD, ⟨ME, sE⟩, ⟨MR, sR⟩, fd, sF⟩ := hh
  have hsL := sL
  obtain ⟨e1, l1, l26, f1, e2, l2⟩ := hsL
  have hsD := sD
  obtain ⟨d1, d2, ⟨g0, d3, d3g⟩, d4, d5, d6, d7⟩ := hsD
  refine z_met (by decide) (Nat.le_of_ble_eq_true rfl) ?_
  intro p e s m below meth c ls hF hr hlocks hnam hZ hl
  have hF : CallFix p m c b_S_wipe 1 s ([.ref (ad (0))] : List Value).toArray zz R_S := hF
  have hl : lv_has ls 1 [(0, .ref (ad (0)))] := hl
  refine lv_aload_n hF.1 hF.2.1 d_S_wipe_0 rfl (lv_at hl 0 rfl) ?_
  refine gf_S_14 hF hZ (0) (by omega) s0 rfl d_S_wipe_1 ?_
  refine z_callv hZ (z_run cw_S_51 hF hZ (1) (c_L_clear l (k := 1) (ka := 2) (by omega) (by omega) (by omega) (by omega) sL) (by decide) (by omega) e1 rfl rfl hl.1 rfl (Nat.le_of_ble_eq_true rfl) d_S_wipe_4) (fun en1 H locs hq hZ => ?_)
  obtain ⟨hq1, hq2⟩ := hq
  exact z_vret hF hr hlocks hZ ⟨h.inp hq1 (fun r q1 _ => hq2 r q1), fun r hr => hq2 r (by omega)⟩ d_S_wipe_7
set_option maxHeartbeats 4000000 in
set_option maxRecDepth 100000 in
theorem c_S_length (l : Launch) {G : zG} {ad : Nat → Nat} {en : Nat → va_E} {N : Nat} {T : List Nat} {sg : Nat → Nat} {C : List wd_W} (hN : 104 ≤ N) (h : pS G ad en T sg C) : zMi l y_S_length b_S_length 1 .int 1 G ad en N [.ref (ad (0))] (fun v en1 => en1 = en ∧ v = nI T.length) := by
  have hh := h
  obtain ⟨s0, sL, sD, ⟨ME, sE⟩, ⟨MR, sR⟩, fd, sF⟩ := hh
  have hsL := sL
  obtain ⟨e1, l1, l26, f1, e2, l2⟩ := hsL
  have hsD := sD
  obtain ⟨d1, d2, ⟨g0, d3, d3g⟩, d4, d5, d6, d7⟩ := hsD
  refine z_met (by decide) (Nat.le_of_ble_eq_true rfl) ?_
  intro p e s m below meth c ls hF hr hlocks hnam hZ hl
  have hF : CallFix p m c b_S_length 1 s ([.ref (ad (0))] : List Value).toArray zz R_S := hF
  have hl : lv_has ls 1 [(0, .ref (ad (0)))] := hl
  refine lv_aload_n hF.1 hF.2.1 d_S_length_0 rfl (lv_at hl 0 rfl) ?_
  refine gf_S_14 hF hZ (0) (by omega) s0 rfl d_S_length_1 ?_
  refine gf_S_54 hF hZ (1) (by omega) e1 rfl d_S_length_4 ?_
  exact z_iret hF hr hlocks hZ rfl ⟨rfl, rfl⟩ d_S_length_7
set_option maxHeartbeats 4000000 in
set_option maxRecDepth 100000 in
theorem c_S_typed (l : Launch) {G : zG} {ad : Nat → Nat} {en : Nat → va_E} {N : Nat} {T : List Nat} {sg : Nat → Nat} {C : List wd_W} (hN : 104 ≤ N) (h : pS G ad en T sg C) {i : Int32} : zMi l y_S_typed b_S_typed 2 .int 2 G ad en N [.ref (ad (0)), .int (i)] (fun v en1 => en1 = en ∧ v = iv (atv T i)) := by
  have hh := h
  obtain ⟨s0, sL, sD, ⟨ME, sE⟩, ⟨MR, sR⟩, fd, sF⟩ := hh
  have hsL := sL
  obtain ⟨e1, l1, l26, f1, e2, l2⟩ := hsL
  have hsD := sD
  obtain ⟨d1, d2, ⟨g0, d3, d3g⟩, d4, d5, d6, d7⟩ := hsD
  refine z_met (by decide) (Nat.le_of_ble_eq_true rfl) ?_
  intro p e s m below meth c ls hF hr hlocks hnam hZ hl
  have hF : CallFix p m c b_S_typed 2 s ([.ref (ad (0)), .int (i)] : List Value).toArray zz R_S := hF
  have hl : lv_has ls 2 [(0, .ref (ad (0))), (1, .int (i))] := hl
  refine lv_aload_n hF.1 hF.2.1 d_S_typed_0 rfl (lv_at hl 0 rfl) ?_
  refine gf_S_14 hF hZ (0) (by omega) s0 rfl d_S_typed_1 ?_
  refine lv_iload_n hF.1 hF.2.1 d_S_typed_4 rfl (lv_at hl 1 rfl) ?_
  refine z_calli hZ (z_run cw_S_58 hF hZ (1) (c_L_at l (k := 1) (ka := 2) (by omega) (by omega) (by omega) (by omega) sL i) (by decide) (by omega) e1 rfl rfl hl.1 rfl (Nat.le_of_ble_eq_true rfl) d_S_typed_5) (fun v enq H locs hp hZ => ?_)
  obtain ⟨he, hv⟩ := hp
  subst hv
  have hZ := hZ.to he
  exact z_iret hF hr hlocks hZ rfl ⟨rfl, rfl⟩ d_S_typed_8
set_option maxHeartbeats 4000000 in
set_option maxRecDepth 100000 in
theorem c_S_learnN (l : Launch) {G : zG} {ad : Nat → Nat} {en : Nat → va_E} {N : Nat} {T : List Nat} {sg : Nat → Nat} {C : List wd_W} (hN : 104 ≤ N) (h : pS G ad en T sg C) {n : Int32} (hno : n < nI 1 ∨ nI 1000000 < n) : zMi l y_S_learn b_S_learn 3 .int 5 G ad en N [.ref (ad (0)), .int (n)] (fun v en1 => v = -1 ∧ en1 = en) := by
  have hh := h
  obtain ⟨s0, sL, sD, ⟨ME, sE⟩, ⟨MR, sR⟩, fd, sF⟩ := hh
  have hsL := sL
  obtain ⟨e1, l1, l26, f1, e2, l2⟩ := hsL
  have hsD := sD
  obtain ⟨d1, d2, ⟨g0, d3, d3g⟩, d4, d5, d6, d7⟩ := hsD
  refine z_met (by decide) (Nat.le_of_ble_eq_true rfl) ?_
  intro p e s m below meth c ls hF hr hlocks hnam hZ hl
  have hF : CallFix p m c b_S_learn 3 s ([.ref (ad (0)), .int (n)] : List Value).toArray zz R_S := hF
  have hl : lv_has ls 3 [(0, .ref (ad (0))), (1, .int (n))] := hl
  refine lv_iload_n hF.1 hF.2.1 d_S_learn_0 rfl (lv_at hl 1 rfl) ?_
  refine lv_iconst (v := (nI (1))) hF.1 hF.2.1 d_S_learn_1 (by decide) ?_
  refine lv_icmp_lt (tgt := 11) hF.1 hF.2.1 d_S_learn_2 (by decide) (fun q => ?_) (fun q => ?_)
  · refine lv_iconst (v := ((-1))) hF.1 hF.2.1 d_S_learn_11 (by decide) ?_
    exact z_iret hF hr hlocks hZ rfl ⟨rfl, rfl⟩ d_S_learn_12
  · refine lv_iload_n hF.1 hF.2.1 d_S_learn_5 rfl (lv_at hl 1 rfl) ?_
    refine lv_ldc hF.1 hF.2.1 hF.2.2.2.1 (hF.2.2.2.2 _ cn_S_62) d_S_learn_6 ?_
    refine z_top (show (1000000 : Int32) = nI 1000000 by decide) ?_
    refine lv_icmp_le (tgt := 13) hF.1 hF.2.1 d_S_learn_8 (by decide) (fun q2 => ?_) (fun q2 => ?_)
    · exact absurd (hno.resolve_left q) (fun z => by
        rw [Int32.lt_iff_toInt_lt] at z; rw [Int32.le_iff_toInt_le] at q2; omega)
    · refine lv_iconst (v := ((-1))) hF.1 hF.2.1 d_S_learn_11 (by decide) ?_
      exact z_iret hF hr hlocks hZ rfl ⟨rfl, rfl⟩ d_S_learn_12
set_option maxHeartbeats 4000000 in
set_option maxRecDepth 100000 in
theorem c_S_learnL (l : Launch) {G : zG} {ad : Nat → Nat} {en : Nat → va_E} {N : Nat} {T : List Nat} {sg : Nat → Nat} {C : List wd_W} (hN : 104 ≤ N) (h : pS G ad en T sg C) {t : Nat} (ht1 : 1 ≤ t) (ht2 : t ≤ 1000000) (hno : T.length = 0 ∨ 8 < T.length) : zMi l y_S_learn b_S_learn 3 .int 5 G ad en N [.ref (ad (0)), .int (nI (t))] (fun v en1 => v = -2 ∧ en1 = en) := by
  have hh := h
  obtain ⟨s0, sL, sD, ⟨ME, sE⟩, ⟨MR, sR⟩, fd, sF⟩ := hh
  have hsL := sL
  obtain ⟨e1, l1, l26, f1, e2, l2⟩ := hsL
  have hsD := sD
  obtain ⟨d1, d2, ⟨g0, d3, d3g⟩, d4, d5, d6, d7⟩ := hsD
  refine z_met (by decide) (Nat.le_of_ble_eq_true rfl) ?_
  intro p e s m below meth c ls hF hr hlocks hnam hZ hl
  have hF : CallFix p m c b_S_learn 3 s ([.ref (ad (0)), .int (nI (t))] : List Value).toArray zz R_S := hF
  have hl : lv_has ls 3 [(0, .ref (ad (0))), (1, .int (nI (t)))] := hl
  refine lv_iload_n hF.1 hF.2.1 d_S_learn_0 rfl (lv_at hl 1 rfl) ?_
  refine lv_iconst (v := (nI (1))) hF.1 hF.2.1 d_S_learn_1 (by decide) ?_
  refine lv_icmp_lt (tgt := 11) hF.1 hF.2.1 d_S_learn_2 (by decide) (fun h => absurd h (nI_nlt ht1 (by omega))) (fun _ => ?_)
  refine lv_iload_n hF.1 hF.2.1 d_S_learn_5 rfl (lv_at hl 1 rfl) ?_
  refine lv_ldc hF.1 hF.2.1 hF.2.2.2.1 (hF.2.2.2.2 _ cn_S_62) d_S_learn_6 ?_
  refine z_top (show (1000000 : Int32) = nI 1000000 by decide) ?_
  refine lv_icmp_le (tgt := 13) hF.1 hF.2.1 d_S_learn_8 (by decide) (fun _ => ?_) (fun h => absurd (nI_le ht2 (by omega)) h)
  refine lv_aload_n hF.1 hF.2.1 d_S_learn_13 rfl (lv_at hl 0 rfl) ?_
  refine gf_S_14 hF hZ (0) (by omega) s0 rfl d_S_learn_14 ?_
  refine gf_S_54 hF hZ (1) (by omega) e1 rfl d_S_learn_17 ?_
  refine lv_iconst (v := (nI (1))) hF.1 hF.2.1 d_S_learn_20 (by decide) ?_
  refine lv_icmp_lt (tgt := 36) hF.1 hF.2.1 d_S_learn_21 (by decide) (fun q => ?_) (fun q => ?_)
  · refine lv_bipush (v := ((-2))) hF.1 hF.2.1 d_S_learn_36 (by decide) ?_
    exact z_iret hF hr hlocks hZ rfl ⟨rfl, rfl⟩ d_S_learn_38
  · have q : ¬ T.length < 1 := fun z => q (nI_lt z (by omega))
    refine lv_aload_n hF.1 hF.2.1 d_S_learn_24 rfl (lv_at hl 0 rfl) ?_
    refine gf_S_14 hF hZ (0) (by omega) s0 rfl d_S_learn_25 ?_
    refine gf_S_54 hF hZ (1) (by omega) e1 rfl d_S_learn_28 ?_
    refine lv_bipush (v := (nI (8))) hF.1 hF.2.1 d_S_learn_31 (by decide) ?_
    refine lv_icmp_le (tgt := 39) hF.1 hF.2.1 d_S_learn_33 (by decide) (fun h => absurd h (nI_ge (show 8 < T.length by omega) (by omega))) (fun _ => ?_)
    refine lv_bipush (v := ((-2))) hF.1 hF.2.1 d_S_learn_36 (by decide) ?_
    exact z_iret hF hr hlocks hZ rfl ⟨rfl, rfl⟩ d_S_learn_38
set_option maxHeartbeats 4000000 in
set_option maxRecDepth 100000 in
theorem c_S_learn (l : Launch) {G : zG} {ad : Nat → Nat} {en : Nat → va_E} {N : Nat} {T : List Nat} {sg : Nat → Nat} {C : List wd_W} (hN : 104 ≤ N) (h : pS G ad en T sg C) {t : Nat} (ht1 : 1 ≤ t) (ht2 : t ≤ 1000000) (hl1 : 1 ≤ T.length) (hl2 : T.length ≤ 8) : zMi l y_S_learn b_S_learn 3 .int 5 G ad en N [.ref (ad (0)), .int (nI (t))] (fun v en1 => ((∀ r, 104 ≤ r → en1 r = en r)) ∧ ((∃ k w, C[k]? = some w ∧ w.1 = T ∧ v = 1 ∧ pS G ad en1 T sg (C.set k (w.1, min 1000000 (w.2 + t)))) ∨ ((∀ w ∈ C, w.1 ≠ T) ∧ ((C.length < 24 ∧ v = 0 ∧ ∃ sg1, pS G ad en1 T sg1 (C.take (C.countP (fun w => wd_lt w.1 T)) ++ (T, t) :: C.drop (C.countP (fun w => wd_lt w.1 T)))) ∨ (¬ C.length < 24 ∧ v = -3 ∧ pS G ad en1 T sg C))))) := by
  have hh := h
  obtain ⟨s0, sL, sD, ⟨ME, sE⟩, ⟨MR, sR⟩, fd, sF⟩ := hh
  have hsL := sL
  obtain ⟨e1, l1, l26, f1, e2, l2⟩ := hsL
  have hsD := sD
  obtain ⟨d1, d2, ⟨g0, d3, d3g⟩, d4, d5, d6, d7⟩ := hsD
  refine z_met (by decide) (Nat.le_of_ble_eq_true rfl) ?_
  intro p e s m below meth c ls hF hr hlocks hnam hZ hl
  have hF : CallFix p m c b_S_learn 3 s ([.ref (ad (0)), .int (nI (t))] : List Value).toArray zz R_S := hF
  have hl : lv_has ls 3 [(0, .ref (ad (0))), (1, .int (nI (t)))] := hl
  refine lv_iload_n hF.1 hF.2.1 d_S_learn_0 rfl (lv_at hl 1 rfl) ?_
  refine lv_iconst (v := (nI (1))) hF.1 hF.2.1 d_S_learn_1 (by decide) ?_
  refine lv_icmp_lt (tgt := 11) hF.1 hF.2.1 d_S_learn_2 (by decide) (fun h => absurd h (nI_nlt ht1 (by omega))) (fun _ => ?_)
  refine lv_iload_n hF.1 hF.2.1 d_S_learn_5 rfl (lv_at hl 1 rfl) ?_
  refine lv_ldc hF.1 hF.2.1 hF.2.2.2.1 (hF.2.2.2.2 _ cn_S_62) d_S_learn_6 ?_
  refine z_top (show (1000000 : Int32) = nI 1000000 by decide) ?_
  refine lv_icmp_le (tgt := 13) hF.1 hF.2.1 d_S_learn_8 (by decide) (fun _ => ?_) (fun h => absurd (nI_le ht2 (by omega)) h)
  refine lv_aload_n hF.1 hF.2.1 d_S_learn_13 rfl (lv_at hl 0 rfl) ?_
  refine gf_S_14 hF hZ (0) (by omega) s0 rfl d_S_learn_14 ?_
  refine gf_S_54 hF hZ (1) (by omega) e1 rfl d_S_learn_17 ?_
  refine lv_iconst (v := (nI (1))) hF.1 hF.2.1 d_S_learn_20 (by decide) ?_
  refine lv_icmp_lt (tgt := 36) hF.1 hF.2.1 d_S_learn_21 (by decide) (fun h => absurd h (nI_nlt hl1 (by omega))) (fun _ => ?_)
  refine lv_aload_n hF.1 hF.2.1 d_S_learn_24 rfl (lv_at hl 0 rfl) ?_
  refine gf_S_14 hF hZ (0) (by omega) s0 rfl d_S_learn_25 ?_
  refine gf_S_54 hF hZ (1) (by omega) e1 rfl d_S_learn_28 ?_
  refine lv_bipush (v := (nI (8))) hF.1 hF.2.1 d_S_learn_31 (by decide) ?_
  refine lv_icmp_le (tgt := 39) hF.1 hF.2.1 d_S_learn_33 (by decide) (fun _ => ?_) (fun h => absurd (nI_le hl2 (by omega)) h)
  refine lv_aload_n hF.1 hF.2.1 d_S_learn_39 rfl (lv_at hl 0 rfl) ?_
  refine gf_S_21 hF hZ (0) (by omega) s0 rfl d_S_learn_40 ?_
  refine lv_aload_n hF.1 hF.2.1 d_S_learn_43 rfl (lv_at hl 0 rfl) ?_
  refine gf_S_14 hF hZ (0) (by omega) s0 rfl d_S_learn_44 ?_
  refine z_calli hZ (z_run cw_S_63 hF hZ (3) (c_D_find l (by omega) sD (k2 := 1) (ka2 := 2) (by omega) (by omega) (by omega) (by omega) sL) (by decide) (by omega) d1 rfl rfl hl.1 rfl (Nat.le_of_ble_eq_true rfl) d_S_learn_47) (fun v enq H locs hp hZ => ?_)
  obtain ⟨he, hd⟩ := hp
  have hZ := hZ.to he
  rcases hd with ⟨k, u, hk, hu, hv⟩ | ⟨hv, hno⟩
  · subst hv
    have hkl := wd_lt_of hk
    refine lv_istore_n hF.1 hF.2.1 d_S_learn_50 rfl hl (by decide) rfl (fun ls hl => ?_)
    have hl : lv_has ls 3 [(2, .int (nI (k))), (0, .ref (ad (0))), (1, .int (nI (t)))] := hl
    refine lv_iload_n hF.1 hF.2.1 d_S_learn_51 rfl (lv_at hl 0 rfl) ?_
    refine lv_iconst (v := ((-1))) hF.1 hF.2.1 d_S_learn_52 (by decide) ?_
    refine lv_icmp_eq (tgt := 67) hF.1 hF.2.1 d_S_learn_53 (by decide) (fun h => absurd h (nI_m1 (by omega))) (fun _ => ?_)
    refine lv_aload_n hF.1 hF.2.1 d_S_learn_56 rfl (lv_at hl 1 rfl) ?_
    refine gf_S_21 hF hZ (0) (by omega) s0 rfl d_S_learn_57 ?_
    refine lv_iload_n hF.1 hF.2.1 d_S_learn_60 rfl (lv_at hl 0 rfl) ?_
    refine lv_iload_n hF.1 hF.2.1 d_S_learn_61 rfl (lv_at hl 2 rfl) ?_
    refine z_callv hZ (z_run cw_S_67 hF hZ (3) (c_D_addTimes l (by omega) sD hk ht2) (by decide) (by omega) d1 rfl rfl hl.1 rfl (Nat.le_of_ble_eq_true rfl) d_S_learn_62) (fun en1 H locs hq hZ => ?_)
    obtain ⟨hq1, hq2⟩ := hq
    refine lv_iconst (v := (nI (1))) hF.1 hF.2.1 d_S_learn_65 (by decide) ?_
    exact z_iret hF hr hlocks hZ rfl ⟨fun r hr => hq2 r (by omega), Or.inl ⟨k, u, hk, hu, rfl, h.dic hq1 hq2⟩⟩ d_S_learn_66
  · subst hv
    refine lv_istore_n hF.1 hF.2.1 d_S_learn_50 rfl hl (by decide) rfl (fun ls hl => ?_)
    have hl : lv_has ls 3 [(2, .int ((-1))), (0, .ref (ad (0))), (1, .int (nI (t)))] := hl
    refine lv_iload_n hF.1 hF.2.1 d_S_learn_51 rfl (lv_at hl 0 rfl) ?_
    refine lv_iconst (v := ((-1))) hF.1 hF.2.1 d_S_learn_52 (by decide) ?_
    refine lv_icmp_eq (tgt := 67) hF.1 hF.2.1 d_S_learn_53 (by decide) (fun _ => ?_) (fun h => absurd rfl h)
    refine lv_aload_n hF.1 hF.2.1 d_S_learn_67 rfl (lv_at hl 1 rfl) ?_
    refine gf_S_21 hF hZ (0) (by omega) s0 rfl d_S_learn_68 ?_
    refine lv_aload_n hF.1 hF.2.1 d_S_learn_71 rfl (lv_at hl 1 rfl) ?_
    refine gf_S_14 hF hZ (0) (by omega) s0 rfl d_S_learn_72 ?_
    refine lv_iload_n hF.1 hF.2.1 d_S_learn_75 rfl (lv_at hl 2 rfl) ?_
    by_cases hfull : C.length < 24
    · refine z_calli hZ (z_run cw_S_71 hF hZ (3) (c_D_insert l (by omega) sD (k2 := 1) (ka2 := 2) (by omega) (by omega) (by omega) (by omega) sL (by omega) (by omega) hl2 ht2 hfull) (by decide) (by omega) d1 rfl rfl hl.1 rfl (Nat.le_of_ble_eq_true rfl) d_S_learn_76) (fun v en1 H locs hq hZ => ?_)
      obtain ⟨hv, ⟨sg1, hq1⟩, hq2⟩ := hq
      subst hv
      refine lv_if_eq (tgt := 86) hF.1 hF.2.1 d_S_learn_79 (by decide) (fun h => absurd h (by decide)) (fun _ => ?_)
      refine lv_iconst (v := (nI (0))) hF.1 hF.2.1 d_S_learn_82 (by decide) ?_
      refine lv_goto (tgt := 88) hF.1 hF.2.1 d_S_learn_83 (by decide) ?_
      exact z_iret hF hr hlocks hZ rfl ⟨fun r hr => hq2 r (by omega), Or.inr ⟨hno, Or.inl ⟨hfull, rfl, sg1, h.dic hq1 hq2⟩⟩⟩ d_S_learn_88
    · refine z_calli hZ (z_run cw_S_71 hF hZ (3) (c_D_insertNo l (by omega) sD (k2 := 1) (ka2 := 2) (by omega) (by omega) (by omega) (by omega) sL hfull) (by decide) (by omega) d1 rfl rfl hl.1 rfl (Nat.le_of_ble_eq_true rfl) d_S_learn_76) (fun v en1 H locs hq hZ => ?_)
      obtain ⟨hv, hq1⟩ := hq
      subst hv
      have hZ := hZ.to hq1
      refine lv_if_eq (tgt := 86) hF.1 hF.2.1 d_S_learn_79 (by decide) (fun _ => ?_) (fun h => absurd rfl h)
      refine lv_bipush (v := ((-3))) hF.1 hF.2.1 d_S_learn_86 (by decide) ?_
      exact z_iret hF hr hlocks hZ rfl ⟨fun r hr => rfl, Or.inr ⟨hno, Or.inr ⟨hfull, rfl, h⟩⟩⟩ d_S_learn_88
set_option maxHeartbeats 4000000 in
set_option maxRecDepth 100000 in
theorem c_S_forget (l : Launch) {G : zG} {ad : Nat → Nat} {en : Nat → va_E} {N : Nat} {T : List Nat} {sg : Nat → Nat} {C : List wd_W} (hN : 104 ≤ N) (h : pS G ad en T sg C) {j : Nat} (hj : j < C.length) : zMi l y_S_forget b_S_forget 2 .boolean 3 G ad en N [.ref (ad (0)), .int (nI (j))] (fun v en1 => v = 1 ∧ (∃ sg1, pS G ad en1 T sg1 (C.eraseIdx j)) ∧ ∀ r, 104 ≤ r → en1 r = en r) := by
  have hh := h
  obtain ⟨s0, sL, sD, ⟨ME, sE⟩, ⟨MR, sR⟩, fd, sF⟩ := hh
  have hsL := sL
  obtain ⟨e1, l1, l26, f1, e2, l2⟩ := hsL
  have hsD := sD
  obtain ⟨d1, d2, ⟨g0, d3, d3g⟩, d4, d5, d6, d7⟩ := hsD
  refine z_met (by decide) (Nat.le_of_ble_eq_true rfl) ?_
  intro p e s m below meth c ls hF hr hlocks hnam hZ hl
  have hF : CallFix p m c b_S_forget 2 s ([.ref (ad (0)), .int (nI (j))] : List Value).toArray zz R_S := hF
  have hl : lv_has ls 2 [(0, .ref (ad (0))), (1, .int (nI (j)))] := hl
  refine lv_aload_n hF.1 hF.2.1 d_S_forget_0 rfl (lv_at hl 0 rfl) ?_
  refine gf_S_21 hF hZ (0) (by omega) s0 rfl d_S_forget_1 ?_
  refine lv_iload_n hF.1 hF.2.1 d_S_forget_4 rfl (lv_at hl 1 rfl) ?_
  refine z_calli hZ (z_run cw_S_75 hF hZ (3) (c_D_remove l (by omega) sD hj) (by decide) (by omega) d1 rfl rfl hl.1 rfl (Nat.le_of_ble_eq_true rfl) d_S_forget_5) (fun v en1 H locs hq hZ => ?_)
  obtain ⟨hv, ⟨sg1, hq1⟩, hq2⟩ := hq
  subst hv
  exact z_iret hF hr hlocks hZ (by decide) ⟨rfl, ⟨sg1, h.dic hq1 hq2⟩, fun r hr => hq2 r (by omega)⟩ d_S_forget_8
set_option maxHeartbeats 4000000 in
set_option maxRecDepth 100000 in
theorem c_S_forgetNo (l : Launch) {G : zG} {ad : Nat → Nat} {en : Nat → va_E} {N : Nat} {T : List Nat} {sg : Nat → Nat} {C : List wd_W} (hN : 104 ≤ N) (h : pS G ad en T sg C) {k : Int32} (hno : k < 0 ∨ nI C.length ≤ k) : zMi l y_S_forget b_S_forget 2 .boolean 3 G ad en N [.ref (ad (0)), .int (k)] (fun v en1 => v = 0 ∧ en1 = en) := by
  have hh := h
  obtain ⟨s0, sL, sD, ⟨ME, sE⟩, ⟨MR, sR⟩, fd, sF⟩ := hh
  have hsL := sL
  obtain ⟨e1, l1, l26, f1, e2, l2⟩ := hsL
  have hsD := sD
  obtain ⟨d1, d2, ⟨g0, d3, d3g⟩, d4, d5, d6, d7⟩ := hsD
  refine z_met (by decide) (Nat.le_of_ble_eq_true rfl) ?_
  intro p e s m below meth c ls hF hr hlocks hnam hZ hl
  have hF : CallFix p m c b_S_forget 2 s ([.ref (ad (0)), .int (k)] : List Value).toArray zz R_S := hF
  have hl : lv_has ls 2 [(0, .ref (ad (0))), (1, .int (k))] := hl
  refine lv_aload_n hF.1 hF.2.1 d_S_forget_0 rfl (lv_at hl 0 rfl) ?_
  refine gf_S_21 hF hZ (0) (by omega) s0 rfl d_S_forget_1 ?_
  refine lv_iload_n hF.1 hF.2.1 d_S_forget_4 rfl (lv_at hl 1 rfl) ?_
  refine z_calli hZ (z_run cw_S_75 hF hZ (3) (c_D_removeNo l (by omega) sD hno) (by decide) (by omega) d1 rfl rfl hl.1 rfl (Nat.le_of_ble_eq_true rfl) d_S_forget_5) (fun v en1 H locs hq hZ => ?_)
  obtain ⟨hv, hq1⟩ := hq
  subst hv
  exact z_iret hF hr hlocks hZ (by decide) ⟨rfl, hq1⟩ d_S_forget_8
set_option maxHeartbeats 4000000 in
set_option maxRecDepth 100000 in
theorem c_S_words (l : Launch) {G : zG} {ad : Nat → Nat} {en : Nat → va_E} {N : Nat} {T : List Nat} {sg : Nat → Nat} {C : List wd_W} (hN : 104 ≤ N) (h : pS G ad en T sg C) : zMi l y_S_words b_S_words 1 .int 1 G ad en N [.ref (ad (0))] (fun v en1 => en1 = en ∧ v = nI C.length) := by
  have hh := h
  obtain ⟨s0, sL, sD, ⟨ME, sE⟩, ⟨MR, sR⟩, fd, sF⟩ := hh
  have hsL := sL
  obtain ⟨e1, l1, l26, f1, e2, l2⟩ := hsL
  have hsD := sD
  obtain ⟨d1, d2, ⟨g0, d3, d3g⟩, d4, d5, d6, d7⟩ := hsD
  refine z_met (by decide) (Nat.le_of_ble_eq_true rfl) ?_
  intro p e s m below meth c ls hF hr hlocks hnam hZ hl
  have hF : CallFix p m c b_S_words 1 s ([.ref (ad (0))] : List Value).toArray zz R_S := hF
  have hl : lv_has ls 1 [(0, .ref (ad (0)))] := hl
  refine lv_aload_n hF.1 hF.2.1 d_S_words_0 rfl (lv_at hl 0 rfl) ?_
  refine gf_S_21 hF hZ (0) (by omega) s0 rfl d_S_words_1 ?_
  refine gf_S_78 hF hZ (3) (by omega) d1 rfl d_S_words_4 ?_
  exact z_iret hF hr hlocks hZ rfl ⟨rfl, rfl⟩ d_S_words_7
set_option maxHeartbeats 4000000 in
set_option maxRecDepth 100000 in
theorem c_S_letter (l : Launch) {G : zG} {ad : Nat → Nat} {en : Nat → va_E} {N : Nat} {T : List Nat} {sg : Nat → Nat} {C : List wd_W} (hN : 104 ≤ N) (h : pS G ad en T sg C) {j : Nat} {w : wd_W} (hj : C[j]? = some w) {i : Int32} : zMi l y_S_letter b_S_letter 3 .int 2 G ad en N [.ref (ad (0)), .int (nI (j)), .int (i)] (fun v en1 => en1 = en ∧ v = iv (atv w.1 i)) := by
  have hh := h
  obtain ⟨s0, sL, sD, ⟨ME, sE⟩, ⟨MR, sR⟩, fd, sF⟩ := hh
  have hsL := sL
  obtain ⟨e1, l1, l26, f1, e2, l2⟩ := hsL
  have hsD := sD
  obtain ⟨d1, d2, ⟨g0, d3, d3g⟩, d4, d5, d6, d7⟩ := hsD
  have hjl := wd_lt_of hj
  have hsj := d4 j (by omega)
  have hw := d7 j w hj
  have hwL := hw.2.1
  obtain ⟨e5, m1, m26, f5, e6, m2⟩ := hwL
  refine z_met (by decide) (Nat.le_of_ble_eq_true rfl) ?_
  intro p e s m below meth c ls hF hr hlocks hnam hZ hl
  have hF : CallFix p m c b_S_letter 3 s ([.ref (ad (0)), .int (nI (j)), .int (i)] : List Value).toArray zz R_S := hF
  have hl : lv_has ls 3 [(0, .ref (ad (0))), (1, .int (nI (j))), (2, .int (i))] := hl
  refine lv_aload_n hF.1 hF.2.1 d_S_letter_0 rfl (lv_at hl 0 rfl) ?_
  refine gf_S_21 hF hZ (0) (by omega) s0 rfl d_S_letter_1 ?_
  refine lv_iload_n hF.1 hF.2.1 d_S_letter_4 rfl (lv_at hl 1 rfl) ?_
  refine z_calli hZ (z_run cw_S_79 hF hZ (3) (c_D_has l (by omega) sD hjl) (by decide) (by omega) d1 rfl rfl hl.1 rfl (Nat.le_of_ble_eq_true rfl) d_S_letter_5) (fun v enq H locs hp hZ => ?_)
  obtain ⟨he, hv⟩ := hp
  subst hv
  have hZ := hZ.to he
  refine lv_if_eq (tgt := 26) hF.1 hF.2.1 d_S_letter_8 (by decide) (fun h => absurd h (by decide)) (fun _ => ?_)
  refine lv_aload_n hF.1 hF.2.1 d_S_letter_11 rfl (lv_at hl 0 rfl) ?_
  refine gf_S_21 hF hZ (0) (by omega) s0 rfl d_S_letter_12 ?_
  refine lv_iload_n hF.1 hF.2.1 d_S_letter_15 rfl (lv_at hl 1 rfl) ?_
  refine z_callr hZ (z_run cw_S_82 hF hZ (3) (c_D_lettersOf l (by omega) sD (j := j) hjl) (by decide) (by omega) d1 rfl rfl hl.1 rfl (Nat.le_of_ble_eq_true rfl) d_S_letter_16) (fun v enq H locs hp hZ => ?_)
  obtain ⟨he, hv⟩ := hp
  subst hv
  have hZ := hZ.to he
  refine lv_iload_n hF.1 hF.2.1 d_S_letter_19 rfl (lv_at hl 2 rfl) ?_
  refine z_calli hZ (z_run cw_S_58 hF hZ (6 + 3 * sg (j)) (c_L_at l (by omega) (by omega) (by omega) (by omega) hw.2.1 i) (by decide) (by omega) e5 rfl rfl hl.1 rfl (Nat.le_of_ble_eq_true rfl) d_S_letter_20) (fun v enq H locs hp hZ => ?_)
  obtain ⟨he, hv⟩ := hp
  subst hv
  have hZ := hZ.to he
  refine lv_goto (tgt := 27) hF.1 hF.2.1 d_S_letter_23 (by decide) ?_
  exact z_iret hF hr hlocks hZ rfl ⟨rfl, rfl⟩ d_S_letter_27
set_option maxHeartbeats 4000000 in
set_option maxRecDepth 100000 in
theorem c_S_letterNo (l : Launch) {G : zG} {ad : Nat → Nat} {en : Nat → va_E} {N : Nat} {T : List Nat} {sg : Nat → Nat} {C : List wd_W} (hN : 104 ≤ N) (h : pS G ad en T sg C) {k : Int32} (hno : k < 0 ∨ nI C.length ≤ k) {i : Int32} : zMi l y_S_letter b_S_letter 3 .int 2 G ad en N [.ref (ad (0)), .int (k), .int (i)] (fun v en1 => en1 = en ∧ v = -1) := by
  have hh := h
  obtain ⟨s0, sL, sD, ⟨ME, sE⟩, ⟨MR, sR⟩, fd, sF⟩ := hh
  have hsL := sL
  obtain ⟨e1, l1, l26, f1, e2, l2⟩ := hsL
  have hsD := sD
  obtain ⟨d1, d2, ⟨g0, d3, d3g⟩, d4, d5, d6, d7⟩ := hsD
  refine z_met (by decide) (Nat.le_of_ble_eq_true rfl) ?_
  intro p e s m below meth c ls hF hr hlocks hnam hZ hl
  have hF : CallFix p m c b_S_letter 3 s ([.ref (ad (0)), .int (k), .int (i)] : List Value).toArray zz R_S := hF
  have hl : lv_has ls 3 [(0, .ref (ad (0))), (1, .int (k)), (2, .int (i))] := hl
  refine lv_aload_n hF.1 hF.2.1 d_S_letter_0 rfl (lv_at hl 0 rfl) ?_
  refine gf_S_21 hF hZ (0) (by omega) s0 rfl d_S_letter_1 ?_
  refine lv_iload_n hF.1 hF.2.1 d_S_letter_4 rfl (lv_at hl 1 rfl) ?_
  refine z_calli hZ (z_run cw_S_79 hF hZ (3) (c_D_hasNo l (by omega) sD hno) (by decide) (by omega) d1 rfl rfl hl.1 rfl (Nat.le_of_ble_eq_true rfl) d_S_letter_5) (fun v enq H locs hp hZ => ?_)
  obtain ⟨he, hv⟩ := hp
  subst hv
  have hZ := hZ.to he
  refine lv_if_eq (tgt := 26) hF.1 hF.2.1 d_S_letter_8 (by decide) (fun _ => ?_) (fun h => absurd rfl h)
  refine lv_iconst (v := ((-1))) hF.1 hF.2.1 d_S_letter_26 (by decide) ?_
  exact z_iret hF hr hlocks hZ rfl ⟨rfl, rfl⟩ d_S_letter_27
set_option maxHeartbeats 4000000 in
set_option maxRecDepth 100000 in
theorem c_S_count (l : Launch) {G : zG} {ad : Nat → Nat} {en : Nat → va_E} {N : Nat} {T : List Nat} {sg : Nat → Nat} {C : List wd_W} (hN : 104 ≤ N) (h : pS G ad en T sg C) {j : Nat} {w : wd_W} (hj : C[j]? = some w) : zMi l y_S_count b_S_count 2 .int 2 G ad en N [.ref (ad (0)), .int (nI (j))] (fun v en1 => en1 = en ∧ v = nI w.2) := by
  have hh := h
  obtain ⟨s0, sL, sD, ⟨ME, sE⟩, ⟨MR, sR⟩, fd, sF⟩ := hh
  have hsL := sL
  obtain ⟨e1, l1, l26, f1, e2, l2⟩ := hsL
  have hsD := sD
  obtain ⟨d1, d2, ⟨g0, d3, d3g⟩, d4, d5, d6, d7⟩ := hsD
  have hjl := wd_lt_of hj
  have hsj := d4 j (by omega)
  have hw := d7 j w hj
  have hwL := hw.2.1
  obtain ⟨e5, m1, m26, f5, e6, m2⟩ := hwL
  refine z_met (by decide) (Nat.le_of_ble_eq_true rfl) ?_
  intro p e s m below meth c ls hF hr hlocks hnam hZ hl
  have hF : CallFix p m c b_S_count 2 s ([.ref (ad (0)), .int (nI (j))] : List Value).toArray zz R_S := hF
  have hl : lv_has ls 2 [(0, .ref (ad (0))), (1, .int (nI (j)))] := hl
  refine lv_aload_n hF.1 hF.2.1 d_S_count_0 rfl (lv_at hl 0 rfl) ?_
  refine gf_S_21 hF hZ (0) (by omega) s0 rfl d_S_count_1 ?_
  refine lv_iload_n hF.1 hF.2.1 d_S_count_4 rfl (lv_at hl 1 rfl) ?_
  refine z_calli hZ (z_run cw_S_79 hF hZ (3) (c_D_has l (by omega) sD hjl) (by decide) (by omega) d1 rfl rfl hl.1 rfl (Nat.le_of_ble_eq_true rfl) d_S_count_5) (fun v enq H locs hp hZ => ?_)
  obtain ⟨he, hv⟩ := hp
  subst hv
  have hZ := hZ.to he
  refine lv_if_eq (tgt := 22) hF.1 hF.2.1 d_S_count_8 (by decide) (fun h => absurd h (by decide)) (fun _ => ?_)
  refine lv_aload_n hF.1 hF.2.1 d_S_count_11 rfl (lv_at hl 0 rfl) ?_
  refine gf_S_21 hF hZ (0) (by omega) s0 rfl d_S_count_12 ?_
  refine lv_iload_n hF.1 hF.2.1 d_S_count_15 rfl (lv_at hl 1 rfl) ?_
  refine z_calli hZ (z_run cw_S_86 hF hZ (3) (c_D_timesOf l (by omega) sD hj) (by decide) (by omega) d1 rfl rfl hl.1 rfl (Nat.le_of_ble_eq_true rfl) d_S_count_16) (fun v enq H locs hp hZ => ?_)
  obtain ⟨he, hv⟩ := hp
  subst hv
  have hZ := hZ.to he
  refine lv_goto (tgt := 23) hF.1 hF.2.1 d_S_count_19 (by decide) ?_
  exact z_iret hF hr hlocks hZ rfl ⟨rfl, rfl⟩ d_S_count_23
set_option maxHeartbeats 4000000 in
set_option maxRecDepth 100000 in
theorem c_S_countNo (l : Launch) {G : zG} {ad : Nat → Nat} {en : Nat → va_E} {N : Nat} {T : List Nat} {sg : Nat → Nat} {C : List wd_W} (hN : 104 ≤ N) (h : pS G ad en T sg C) {k : Int32} (hno : k < 0 ∨ nI C.length ≤ k) : zMi l y_S_count b_S_count 2 .int 2 G ad en N [.ref (ad (0)), .int (k)] (fun v en1 => en1 = en ∧ v = 0) := by
  have hh := h
  obtain ⟨s0, sL, sD, ⟨ME, sE⟩, ⟨MR, sR⟩, fd, sF⟩ := hh
  have hsL := sL
  obtain ⟨e1, l1, l26, f1, e2, l2⟩ := hsL
  have hsD := sD
  obtain ⟨d1, d2, ⟨g0, d3, d3g⟩, d4, d5, d6, d7⟩ := hsD
  refine z_met (by decide) (Nat.le_of_ble_eq_true rfl) ?_
  intro p e s m below meth c ls hF hr hlocks hnam hZ hl
  have hF : CallFix p m c b_S_count 2 s ([.ref (ad (0)), .int (k)] : List Value).toArray zz R_S := hF
  have hl : lv_has ls 2 [(0, .ref (ad (0))), (1, .int (k))] := hl
  refine lv_aload_n hF.1 hF.2.1 d_S_count_0 rfl (lv_at hl 0 rfl) ?_
  refine gf_S_21 hF hZ (0) (by omega) s0 rfl d_S_count_1 ?_
  refine lv_iload_n hF.1 hF.2.1 d_S_count_4 rfl (lv_at hl 1 rfl) ?_
  refine z_calli hZ (z_run cw_S_79 hF hZ (3) (c_D_hasNo l (by omega) sD hno) (by decide) (by omega) d1 rfl rfl hl.1 rfl (Nat.le_of_ble_eq_true rfl) d_S_count_5) (fun v enq H locs hp hZ => ?_)
  obtain ⟨he, hv⟩ := hp
  subst hv
  have hZ := hZ.to he
  refine lv_if_eq (tgt := 22) hF.1 hF.2.1 d_S_count_8 (by decide) (fun _ => ?_) (fun h => absurd rfl h)
  refine lv_iconst (v := (nI (0))) hF.1 hF.2.1 d_S_count_22 (by decide) ?_
  exact z_iret hF hr hlocks hZ rfl ⟨rfl, by decide⟩ d_S_count_23
set_option maxHeartbeats 4000000 in
set_option maxRecDepth 100000 in
theorem c_S_rank (l : Launch) {G : zG} {ad : Nat → Nat} {en : Nat → va_E} {N : Nat} {T : List Nat} {sg : Nat → Nat} {C : List wd_W} (hN : 104 ≤ N) (h : pS G ad en T sg C) : zMi l y_S_rank b_S_rank 1 .int 5 G ad en N [.ref (ad (0))] (fun v en1 => en1 = en ∧ ((∃ k w, C[k]? = some w ∧ w.1 = T ∧ v = nI k) ∨ (v = -1 ∧ ∀ w ∈ C, w.1 ≠ T))) := by
  have hh := h
  obtain ⟨s0, sL, sD, ⟨ME, sE⟩, ⟨MR, sR⟩, fd, sF⟩ := hh
  have hsL := sL
  obtain ⟨e1, l1, l26, f1, e2, l2⟩ := hsL
  have hsD := sD
  obtain ⟨d1, d2, ⟨g0, d3, d3g⟩, d4, d5, d6, d7⟩ := hsD
  refine z_met (by decide) (Nat.le_of_ble_eq_true rfl) ?_
  intro p e s m below meth c ls hF hr hlocks hnam hZ hl
  have hF : CallFix p m c b_S_rank 1 s ([.ref (ad (0))] : List Value).toArray zz R_S := hF
  have hl : lv_has ls 1 [(0, .ref (ad (0)))] := hl
  refine lv_aload_n hF.1 hF.2.1 d_S_rank_0 rfl (lv_at hl 0 rfl) ?_
  refine gf_S_21 hF hZ (0) (by omega) s0 rfl d_S_rank_1 ?_
  refine lv_aload_n hF.1 hF.2.1 d_S_rank_4 rfl (lv_at hl 0 rfl) ?_
  refine gf_S_14 hF hZ (0) (by omega) s0 rfl d_S_rank_5 ?_
  refine z_calli hZ (z_run cw_S_63 hF hZ (3) (c_D_find l (by omega) sD (k2 := 1) (ka2 := 2) (by omega) (by omega) (by omega) (by omega) sL) (by decide) (by omega) d1 rfl rfl hl.1 rfl (Nat.le_of_ble_eq_true rfl) d_S_rank_8) (fun v en1 H locs hp hZ => ?_)
  exact z_iret hF hr hlocks hZ rfl hp d_S_rank_11
set_option maxHeartbeats 4000000 in
set_option maxRecDepth 100000 in
theorem c_S_distance (l : Launch) {G : zG} {ad : Nat → Nat} {en : Nat → va_E} {N : Nat} {T : List Nat} {sg : Nat → Nat} {C : List wd_W} (hN : 104 ≤ N) (h : pS G ad en T sg C) {j : Nat} {w : wd_W} (hj : C[j]? = some w) : zMi l y_S_distance b_S_distance 2 .int 4 G ad en N [.ref (ad (0)), .int (nI (j))] (fun v en1 => v = nI (dist T w) ∧ pS G ad en1 T sg C ∧ ∀ r, 104 ≤ r → en1 r = en r) := by
  have hh := h
  obtain ⟨s0, sL, sD, ⟨ME, sE⟩, ⟨MR, sR⟩, fd, sF⟩ := hh
  have hsL := sL
  obtain ⟨e1, l1, l26, f1, e2, l2⟩ := hsL
  have hsD := sD
  obtain ⟨d1, d2, ⟨g0, d3, d3g⟩, d4, d5, d6, d7⟩ := hsD
  have hjl := wd_lt_of hj
  have hsj := d4 j (by omega)
  have hw := d7 j w hj
  have hwL := hw.2.1
  obtain ⟨e5, m1, m26, f5, e6, m2⟩ := hwL
  refine z_met (by decide) (Nat.le_of_ble_eq_true rfl) ?_
  intro p e s m below meth c ls hF hr hlocks hnam hZ hl
  have hF : CallFix p m c b_S_distance 2 s ([.ref (ad (0)), .int (nI (j))] : List Value).toArray zz R_S := hF
  have hl : lv_has ls 2 [(0, .ref (ad (0))), (1, .int (nI (j)))] := hl
  refine lv_aload_n hF.1 hF.2.1 d_S_distance_0 rfl (lv_at hl 0 rfl) ?_
  refine gf_S_21 hF hZ (0) (by omega) s0 rfl d_S_distance_1 ?_
  refine lv_iload_n hF.1 hF.2.1 d_S_distance_4 rfl (lv_at hl 1 rfl) ?_
  refine z_calli hZ (z_run cw_S_79 hF hZ (3) (c_D_has l (by omega) sD hjl) (by decide) (by omega) d1 rfl rfl hl.1 rfl (Nat.le_of_ble_eq_true rfl) d_S_distance_5) (fun v enq H locs hp hZ => ?_)
  obtain ⟨he, hv⟩ := hp
  subst hv
  have hZ := hZ.to he
  refine lv_if_eq (tgt := 33) hF.1 hF.2.1 d_S_distance_8 (by decide) (fun h => absurd h (by decide)) (fun _ => ?_)
  refine lv_aload_n hF.1 hF.2.1 d_S_distance_11 rfl (lv_at hl 0 rfl) ?_
  refine gf_S_28 hF hZ (0) (by omega) s0 rfl d_S_distance_12 ?_
  refine lv_aload_n hF.1 hF.2.1 d_S_distance_15 rfl (lv_at hl 0 rfl) ?_
  refine gf_S_14 hF hZ (0) (by omega) s0 rfl d_S_distance_16 ?_
  refine lv_aload_n hF.1 hF.2.1 d_S_distance_19 rfl (lv_at hl 0 rfl) ?_
  refine gf_S_21 hF hZ (0) (by omega) s0 rfl d_S_distance_20 ?_
  refine lv_iload_n hF.1 hF.2.1 d_S_distance_23 rfl (lv_at hl 1 rfl) ?_
  refine z_callr hZ (z_run cw_S_82 hF hZ (3) (c_D_lettersOf l (by omega) sD (j := j) hjl) (by decide) (by omega) d1 rfl rfl hl.1 rfl (Nat.le_of_ble_eq_true rfl) d_S_distance_24) (fun v enq H locs hp hZ => ?_)
  obtain ⟨he, hv⟩ := hp
  subst hv
  have hZ := hZ.to he
  refine z_calli hZ (z_run cw_S_89 hF hZ (77) (c_E_measure l (k1 := 1) (a1 := 2) (by omega) (by omega) (by omega) (by omega) sL (by omega) (by omega) (by omega) (by omega) hw.2.1 l1 m1 (by omega) sE (by omega) (by omega) (by omega) (by omega)) (by decide) (by omega) sE.1 rfl rfl hl.1 rfl (Nat.le_of_ble_eq_true rfl) d_S_distance_27) (fun v en1 H locs hq hZ => ?_)
  obtain ⟨hv, ⟨M1, hq1, -⟩, hq2⟩ := hq
  subst hv
  refine lv_goto (tgt := 34) hF.1 hF.2.1 d_S_distance_30 (by decide) ?_
  exact z_iret hF hr hlocks hZ rfl ⟨rfl, h.edt hq1 hq2, fun r hr => hq2 r (by omega)⟩ d_S_distance_34
set_option maxHeartbeats 4000000 in
set_option maxRecDepth 100000 in
theorem c_S_distanceNo (l : Launch) {G : zG} {ad : Nat → Nat} {en : Nat → va_E} {N : Nat} {T : List Nat} {sg : Nat → Nat} {C : List wd_W} (hN : 104 ≤ N) (h : pS G ad en T sg C) {k : Int32} (hno : k < 0 ∨ nI C.length ≤ k) : zMi l y_S_distance b_S_distance 2 .int 4 G ad en N [.ref (ad (0)), .int (k)] (fun v en1 => en1 = en ∧ v = -1) := by
  have hh := h
  obtain ⟨s0, sL, sD, ⟨ME, sE⟩, ⟨MR, sR⟩, fd, sF⟩ := hh
  have hsL := sL
  obtain ⟨e1, l1, l26, f1, e2, l2⟩ := hsL
  have hsD := sD
  obtain ⟨d1, d2, ⟨g0, d3, d3g⟩, d4, d5, d6, d7⟩ := hsD
  refine z_met (by decide) (Nat.le_of_ble_eq_true rfl) ?_
  intro p e s m below meth c ls hF hr hlocks hnam hZ hl
  have hF : CallFix p m c b_S_distance 2 s ([.ref (ad (0)), .int (k)] : List Value).toArray zz R_S := hF
  have hl : lv_has ls 2 [(0, .ref (ad (0))), (1, .int (k))] := hl
  refine lv_aload_n hF.1 hF.2.1 d_S_distance_0 rfl (lv_at hl 0 rfl) ?_
  refine gf_S_21 hF hZ (0) (by omega) s0 rfl d_S_distance_1 ?_
  refine lv_iload_n hF.1 hF.2.1 d_S_distance_4 rfl (lv_at hl 1 rfl) ?_
  refine z_calli hZ (z_run cw_S_79 hF hZ (3) (c_D_hasNo l (by omega) sD hno) (by decide) (by omega) d1 rfl rfl hl.1 rfl (Nat.le_of_ble_eq_true rfl) d_S_distance_5) (fun v enq H locs hp hZ => ?_)
  obtain ⟨he, hv⟩ := hp
  subst hv
  have hZ := hZ.to he
  refine lv_if_eq (tgt := 33) hF.1 hF.2.1 d_S_distance_8 (by decide) (fun _ => ?_) (fun h => absurd rfl h)
  refine lv_iconst (v := ((-1))) hF.1 hF.2.1 d_S_distance_33 (by decide) ?_
  exact z_iret hF hr hlocks hZ rfl ⟨rfl, rfl⟩ d_S_distance_34
set_option maxHeartbeats 4000000 in
set_option maxRecDepth 100000 in
theorem c_S_edit (l : Launch) {G : zG} {ad : Nat → Nat} {en : Nat → va_E} {N : Nat} {T : List Nat} {sg : Nat → Nat} {C : List wd_W} (hN : 104 ≤ N) (h : pS G ad en T sg C) {j : Nat} {w : wd_W} (hj : C[j]? = some w) {p0 : Int32} : zMi l y_S_edit b_S_edit 3 .int 5 G ad en N [.ref (ad (0)), .int (nI (j)), .int (p0)] (fun v en1 => v = iv (eav T w.1 p0) ∧ pS G ad en1 T sg C ∧ ∀ r, 104 ≤ r → en1 r = en r) := by
  have hh := h
  obtain ⟨s0, sL, sD, ⟨ME, sE⟩, ⟨MR, sR⟩, fd, sF⟩ := hh
  have hsL := sL
  obtain ⟨e1, l1, l26, f1, e2, l2⟩ := hsL
  have hsD := sD
  obtain ⟨d1, d2, ⟨g0, d3, d3g⟩, d4, d5, d6, d7⟩ := hsD
  have hjl := wd_lt_of hj
  have hsj := d4 j (by omega)
  have hw := d7 j w hj
  have hwL := hw.2.1
  obtain ⟨e5, m1, m26, f5, e6, m2⟩ := hwL
  refine z_met (by decide) (Nat.le_of_ble_eq_true rfl) ?_
  intro p e s m below meth c ls hF hr hlocks hnam hZ hl
  have hF : CallFix p m c b_S_edit 3 s ([.ref (ad (0)), .int (nI (j)), .int (p0)] : List Value).toArray zz R_S := hF
  have hl : lv_has ls 3 [(0, .ref (ad (0))), (1, .int (nI (j))), (2, .int (p0))] := hl
  refine lv_aload_n hF.1 hF.2.1 d_S_edit_0 rfl (lv_at hl 0 rfl) ?_
  refine gf_S_21 hF hZ (0) (by omega) s0 rfl d_S_edit_1 ?_
  refine lv_iload_n hF.1 hF.2.1 d_S_edit_4 rfl (lv_at hl 1 rfl) ?_
  refine z_calli hZ (z_run cw_S_79 hF hZ (3) (c_D_has l (by omega) sD hjl) (by decide) (by omega) d1 rfl rfl hl.1 rfl (Nat.le_of_ble_eq_true rfl) d_S_edit_5) (fun v enq H locs hp hZ => ?_)
  obtain ⟨he, hv⟩ := hp
  subst hv
  have hZ := hZ.to he
  refine lv_if_eq (tgt := 34) hF.1 hF.2.1 d_S_edit_8 (by decide) (fun h => absurd h (by decide)) (fun _ => ?_)
  refine lv_aload_n hF.1 hF.2.1 d_S_edit_11 rfl (lv_at hl 0 rfl) ?_
  refine gf_S_28 hF hZ (0) (by omega) s0 rfl d_S_edit_12 ?_
  refine lv_aload_n hF.1 hF.2.1 d_S_edit_15 rfl (lv_at hl 0 rfl) ?_
  refine gf_S_14 hF hZ (0) (by omega) s0 rfl d_S_edit_16 ?_
  refine lv_aload_n hF.1 hF.2.1 d_S_edit_19 rfl (lv_at hl 0 rfl) ?_
  refine gf_S_21 hF hZ (0) (by omega) s0 rfl d_S_edit_20 ?_
  refine lv_iload_n hF.1 hF.2.1 d_S_edit_23 rfl (lv_at hl 1 rfl) ?_
  refine z_callr hZ (z_run cw_S_82 hF hZ (3) (c_D_lettersOf l (by omega) sD (j := j) hjl) (by decide) (by omega) d1 rfl rfl hl.1 rfl (Nat.le_of_ble_eq_true rfl) d_S_edit_24) (fun v enq H locs hp hZ => ?_)
  obtain ⟨he, hv⟩ := hp
  subst hv
  have hZ := hZ.to he
  refine lv_iload_n hF.1 hF.2.1 d_S_edit_27 rfl (lv_at hl 2 rfl) ?_
  refine z_calli hZ (z_run cw_S_105 hF hZ (77) (c_E_editAt l (k1 := 1) (a1 := 2) (by omega) (by omega) (by omega) (by omega) sL (by omega) (by omega) (by omega) (by omega) hw.2.1 l1 m1 (by omega) sE (by omega) (by omega) (by omega) (by omega)) (by decide) (by omega) sE.1 rfl rfl hl.1 rfl (Nat.le_of_ble_eq_true rfl) d_S_edit_28) (fun v en1 H locs hq hZ => ?_)
  obtain ⟨hv, ⟨M1, hq1⟩, hq2⟩ := hq
  subst hv
  refine lv_goto (tgt := 35) hF.1 hF.2.1 d_S_edit_31 (by decide) ?_
  exact z_iret hF hr hlocks hZ rfl ⟨rfl, h.edt hq1 hq2, fun r hr => hq2 r (by omega)⟩ d_S_edit_35
set_option maxHeartbeats 4000000 in
set_option maxRecDepth 100000 in
theorem c_S_editNo (l : Launch) {G : zG} {ad : Nat → Nat} {en : Nat → va_E} {N : Nat} {T : List Nat} {sg : Nat → Nat} {C : List wd_W} (hN : 104 ≤ N) (h : pS G ad en T sg C) {k : Int32} (hno : k < 0 ∨ nI C.length ≤ k) {p0 : Int32} : zMi l y_S_edit b_S_edit 3 .int 5 G ad en N [.ref (ad (0)), .int (k), .int (p0)] (fun v en1 => en1 = en ∧ v = -1) := by
  have hh := h
  obtain ⟨s0, sL, sD, ⟨ME, sE⟩, ⟨MR, sR⟩, fd, sF⟩ := hh
  have hsL := sL
  obtain ⟨e1, l1, l26, f1, e2, l2⟩ := hsL
  have hsD := sD
  obtain ⟨d1, d2, ⟨g0, d3, d3g⟩, d4, d5, d6, d7⟩ := hsD
  refine z_met (by decide) (Nat.le_of_ble_eq_true rfl) ?_
  intro p e s m below meth c ls hF hr hlocks hnam hZ hl
  have hF : CallFix p m c b_S_edit 3 s ([.ref (ad (0)), .int (k), .int (p0)] : List Value).toArray zz R_S := hF
  have hl : lv_has ls 3 [(0, .ref (ad (0))), (1, .int (k)), (2, .int (p0))] := hl
  refine lv_aload_n hF.1 hF.2.1 d_S_edit_0 rfl (lv_at hl 0 rfl) ?_
  refine gf_S_21 hF hZ (0) (by omega) s0 rfl d_S_edit_1 ?_
  refine lv_iload_n hF.1 hF.2.1 d_S_edit_4 rfl (lv_at hl 1 rfl) ?_
  refine z_calli hZ (z_run cw_S_79 hF hZ (3) (c_D_hasNo l (by omega) sD hno) (by decide) (by omega) d1 rfl rfl hl.1 rfl (Nat.le_of_ble_eq_true rfl) d_S_edit_5) (fun v enq H locs hp hZ => ?_)
  obtain ⟨he, hv⟩ := hp
  subst hv
  have hZ := hZ.to he
  refine lv_if_eq (tgt := 34) hF.1 hF.2.1 d_S_edit_8 (by decide) (fun _ => ?_) (fun h => absurd rfl h)
  refine lv_iconst (v := ((-1))) hF.1 hF.2.1 d_S_edit_34 (by decide) ?_
  exact z_iret hF hr hlocks hZ rfl ⟨rfl, rfl⟩ d_S_edit_35
set_option maxHeartbeats 4000000 in
set_option maxRecDepth 100000 in
theorem c_S_drops (l : Launch) {G : zG} {ad : Nat → Nat} {en : Nat → va_E} {N : Nat} {T : List Nat} {sg : Nat → Nat} {C : List wd_W} (hN : 104 ≤ N) (h : pS G ad en T sg C) {j : Nat} (hj : j ≤ T.length) : zMi l y_S_drops b_S_drops 2 .int 5 G ad en N [.ref (ad (0)), .int (nI (j))] (fun v en1 => v = nI (dr_K T T.length (T.length - j)) ∧ pS G ad en1 T sg C ∧ ∀ r, 104 ≤ r → en1 r = en r) := by
  have hh := h
  obtain ⟨s0, sL, sD, ⟨ME, sE⟩, ⟨MR, sR⟩, fd, sF⟩ := hh
  have hsL := sL
  obtain ⟨e1, l1, l26, f1, e2, l2⟩ := hsL
  have hsD := sD
  obtain ⟨d1, d2, ⟨g0, d3, d3g⟩, d4, d5, d6, d7⟩ := hsD
  refine z_met (by decide) (Nat.le_of_ble_eq_true rfl) ?_
  intro p e s m below meth c ls hF hr hlocks hnam hZ hl
  have hF : CallFix p m c b_S_drops 2 s ([.ref (ad (0)), .int (nI (j))] : List Value).toArray zz R_S := hF
  have hl : lv_has ls 2 [(0, .ref (ad (0))), (1, .int (nI (j)))] := hl
  refine lv_iload_n hF.1 hF.2.1 d_S_drops_0 rfl (lv_at hl 1 rfl) ?_
  refine lv_if_lt (tgt := 15) hF.1 hF.2.1 d_S_drops_1 (by decide) (fun h => absurd h (nI_pos (by omega))) (fun _ => ?_)
  refine lv_iload_n hF.1 hF.2.1 d_S_drops_4 rfl (lv_at hl 1 rfl) ?_
  refine lv_aload_n hF.1 hF.2.1 d_S_drops_5 rfl (lv_at hl 0 rfl) ?_
  refine gf_S_14 hF hZ (0) (by omega) s0 rfl d_S_drops_6 ?_
  refine gf_S_54 hF hZ (1) (by omega) e1 rfl d_S_drops_9 ?_
  refine lv_icmp_le (tgt := 17) hF.1 hF.2.1 d_S_drops_12 (by decide) (fun _ => ?_) (fun h => absurd (nI_le hj (by omega)) h)
  refine lv_aload_n hF.1 hF.2.1 d_S_drops_17 rfl (lv_at hl 0 rfl) ?_
  refine gf_S_35 hF hZ (0) (by omega) s0 rfl d_S_drops_18 ?_
  refine lv_aload_n hF.1 hF.2.1 d_S_drops_21 rfl (lv_at hl 0 rfl) ?_
  refine gf_S_14 hF hZ (0) (by omega) s0 rfl d_S_drops_22 ?_
  refine lv_aload_n hF.1 hF.2.1 d_S_drops_25 rfl (lv_at hl 0 rfl) ?_
  refine gf_S_14 hF hZ (0) (by omega) s0 rfl d_S_drops_26 ?_
  refine gf_S_54 hF hZ (1) (by omega) e1 rfl d_S_drops_29 ?_
  refine lv_iload_n hF.1 hF.2.1 d_S_drops_32 rfl (lv_at hl 1 rfl) ?_
  refine lv_isub hF.1 hF.2.1 d_S_drops_33 ?_
  refine z_top (pk_sub (show j ≤ T.length by omega)) ?_
  refine z_calli hZ (z_run cw_S_109 hF hZ (90) (c_R_listsOf l (k1 := 1) (a1 := 2) (by omega) (by omega) (by omega) (by omega) sL l1 (by omega) sR (by omega) (by omega) (wv := T.length - j) (by omega)) (by decide) (by omega) sR.1 rfl rfl hl.1 rfl (Nat.le_of_ble_eq_true rfl) d_S_drops_34) (fun v en1 H locs hq hZ => ?_)
  obtain ⟨hv, ⟨M1, hq1⟩, hq2⟩ := hq
  subst hv
  exact z_iret hF hr hlocks hZ rfl ⟨rfl, h.drp hq1 hq2, fun r hr => hq2 r (by omega)⟩ d_S_drops_37
set_option maxHeartbeats 4000000 in
set_option maxRecDepth 100000 in
theorem c_S_dropsNo (l : Launch) {G : zG} {ad : Nat → Nat} {en : Nat → va_E} {N : Nat} {T : List Nat} {sg : Nat → Nat} {C : List wd_W} (hN : 104 ≤ N) (h : pS G ad en T sg C) {k : Int32} (hno : k < 0 ∨ nI T.length < k) : zMi l y_S_drops b_S_drops 2 .int 5 G ad en N [.ref (ad (0)), .int (k)] (fun v en1 => en1 = en ∧ v = 0) := by
  have hh := h
  obtain ⟨s0, sL, sD, ⟨ME, sE⟩, ⟨MR, sR⟩, fd, sF⟩ := hh
  have hsL := sL
  obtain ⟨e1, l1, l26, f1, e2, l2⟩ := hsL
  have hsD := sD
  obtain ⟨d1, d2, ⟨g0, d3, d3g⟩, d4, d5, d6, d7⟩ := hsD
  refine z_met (by decide) (Nat.le_of_ble_eq_true rfl) ?_
  intro p e s m below meth c ls hF hr hlocks hnam hZ hl
  have hF : CallFix p m c b_S_drops 2 s ([.ref (ad (0)), .int (k)] : List Value).toArray zz R_S := hF
  have hl : lv_has ls 2 [(0, .ref (ad (0))), (1, .int (k))] := hl
  refine lv_iload_n hF.1 hF.2.1 d_S_drops_0 rfl (lv_at hl 1 rfl) ?_
  refine lv_if_lt (tgt := 15) hF.1 hF.2.1 d_S_drops_1 (by decide) (fun q => ?_) (fun q => ?_)
  · refine lv_iconst (v := (nI (0))) hF.1 hF.2.1 d_S_drops_15 (by decide) ?_
    exact z_iret hF hr hlocks hZ rfl ⟨rfl, by decide⟩ d_S_drops_16
  · refine lv_iload_n hF.1 hF.2.1 d_S_drops_4 rfl (lv_at hl 1 rfl) ?_
    refine lv_aload_n hF.1 hF.2.1 d_S_drops_5 rfl (lv_at hl 0 rfl) ?_
    refine gf_S_14 hF hZ (0) (by omega) s0 rfl d_S_drops_6 ?_
    refine gf_S_54 hF hZ (1) (by omega) e1 rfl d_S_drops_9 ?_
    refine lv_icmp_le (tgt := 17) hF.1 hF.2.1 d_S_drops_12 (by decide) (fun h => absurd h (fun z => by
        have y := hno.resolve_left q
        rw [Int32.lt_iff_toInt_lt] at y; rw [Int32.le_iff_toInt_le] at z; omega)) (fun _ => ?_)
    refine lv_iconst (v := (nI (0))) hF.1 hF.2.1 d_S_drops_15 (by decide) ?_
    exact z_iret hF hr hlocks hZ rfl ⟨rfl, by decide⟩ d_S_drops_16
end
section
theorem dist_18 {T : List Nat} {w : wd_W} (hT : T.length ≤ 10) (hw : w.1.length ≤ 8) : dist T w ≤ 18 := ed_18 (Nat.zero_le _) (Nat.zero_le _) hT hw
theorem wd_cnt_qm {l : List wd_W} {d : wd_W → Nat} {dd : Int32} {v : wd_W} (hd : ∀ u ∈ l, d u < 2 ^ 30) (hv : v ∈ l) (hq : nI (d v) ≤ dd) : l.countP (fun u => wd_bt d u v) = l.countP (fun u => decide (nI (d u) ≤ dd) && wd_bt d u v) := by
  refine List.countP_congr (fun u hu => ⟨fun h => ?_, fun h => ?_⟩)
  · have h2 := (wd_bt_iff d u v).mp h
    have hle : d u ≤ d v := by omega
    have h3 : nI (d u) ≤ nI (d v) := nI_le hle (by have := hd v hv; omega)
    rw [Bool.and_eq_true]
    exact ⟨decide_eq_true (Int32.le_trans h3 hq), h⟩
  · rw [Bool.and_eq_true] at h; exact h.2
set_option maxHeartbeats 4000000 in
set_option maxRecDepth 100000 in
theorem c_S_measureAll (l : Launch) {G : zG} {ad : Nat → Nat} {en : Nat → va_E} {N : Nat} {T : List Nat} {sg : Nat → Nat} {C : List wd_W} (hN : 104 ≤ N) (h : pS G ad en T sg C) : zMv l y_S_measureAll b_S_measureAll 2 4 G ad en N [.ref (ad (0))] (fun en1 => pS G ad en1 T sg C ∧ (∃ f : Nat → Int32, en1 103 = .inl (zI G, 24, .inl f) ∧ ∀ k w, C[k]? = some w → f k = nI (dist T w)) ∧ ∀ r, 104 ≤ r → en1 r = en r) := by
  refine z_met (by decide) (Nat.le_of_ble_eq_true rfl) ?_
  intro p e s m below meth c ls hF hr hlocks hnam hZ hl
  have hF : CallFix p m c b_S_measureAll 2 s ([.ref (ad (0))] : List Value).toArray zz R_S := hF
  have hl : lv_has ls 2 [(0, .ref (ad (0)))] := hl
  have loop : ∀ (n i : Nat) (en1 : Nat → va_E) (fd : Nat → Int32) (H : Heap) (locs : List Loc) (ls : Array Slot), (i + n = C.length) → (pS G ad en1 T sg C) → (en1 103 = .inl (zI G, 24, .inl fd)) → (∀ k w, k < i → C[k]? = some w → fd k = nI (dist T w)) → (∀ r, 104 ≤ r → en1 r = en r) → lv_has ls 2 [(1, .int (nI (i))), (0, .ref (ad (0)))] → zH G ad en1 N s H locs → W p l e (zR 4) s m ([.ref (ad (0))] : List Value).toArray below meth c H locs 0 0 (MQ below (zQv G ad N (fun en1 => pS G ad en1 T sg C ∧ (∃ f : Nat → Int32, en1 103 = .inl (zI G, 24, .inl f) ∧ ∀ k w, C[k]? = some w → f k = nI (dist T w)) ∧ ∀ r, 104 ≤ r → en1 r = en r)) ([.ref (ad (0))] : List Value).toArray s 0 0 (zA G)) (F0 m 2 ls []) := by
    intro n
    induction n with
    | zero =>
      intro i en1 fd H locs ls hin h1 sF hf hfr hl hZ
      have hh := h1
      obtain ⟨s0, sL, sD, ⟨ME, sE⟩, ⟨MR, sR⟩, -, -⟩ := hh
      have hsL := sL
      obtain ⟨e1, l1, l26, f1, e2, l2⟩ := hsL
      have hsD := sD
      obtain ⟨d1, d2, ⟨g0, d3, d3g⟩, d4, d5, d6, d7⟩ := hsD
      refine lv_iload_n hF.1 hF.2.1 d_S_measureAll_2 rfl (lv_at hl 0 rfl) ?_
      refine lv_aload_n hF.1 hF.2.1 d_S_measureAll_3 rfl (lv_at hl 1 rfl) ?_
      refine gf_S_21 hF hZ (0) (by omega) s0 rfl d_S_measureAll_4 ?_
      refine gf_S_78 hF hZ (3) (by omega) d1 rfl d_S_measureAll_7 ?_
      refine lv_icmp_ge (tgt := 44) hF.1 hF.2.1 d_S_measureAll_10 (by decide) (fun _ => ?_) (fun h => absurd (nI_le (by omega) (by omega)) h)
      exact z_vret hF hr hlocks hZ ⟨h1, ⟨fd, sF, fun k w hk => hf k w (by have := wd_lt_of hk; omega) hk⟩, hfr⟩ d_S_measureAll_44
    | succ n ih =>
      intro i en1 fd H locs ls hin h1 sF hf hfr hl hZ
      have hh := h1
      obtain ⟨s0, sL, sD, ⟨ME, sE⟩, ⟨MR, sR⟩, -, -⟩ := hh
      have hsL := sL
      obtain ⟨e1, l1, l26, f1, e2, l2⟩ := hsL
      have hsD := sD
      obtain ⟨d1, d2, ⟨g0, d3, d3g⟩, d4, d5, d6, d7⟩ := hsD
      obtain ⟨w, hi⟩ := wd_some (show i < C.length by omega)
      have hsi := d4 i (by omega)
      have hw := d7 i w hi
      have hwL := hw.2.1
      obtain ⟨e5, m1, m26, f5, e6, m2⟩ := hwL
      refine lv_iload_n hF.1 hF.2.1 d_S_measureAll_2 rfl (lv_at hl 0 rfl) ?_
      refine lv_aload_n hF.1 hF.2.1 d_S_measureAll_3 rfl (lv_at hl 1 rfl) ?_
      refine gf_S_21 hF hZ (0) (by omega) s0 rfl d_S_measureAll_4 ?_
      refine gf_S_78 hF hZ (3) (by omega) d1 rfl d_S_measureAll_7 ?_
      refine lv_icmp_ge (tgt := 44) hF.1 hF.2.1 d_S_measureAll_10 (by decide) (fun h => absurd h (nI_ge (show i < C.length by omega) (by omega))) (fun _ => ?_)
      refine lv_aload_n hF.1 hF.2.1 d_S_measureAll_13 rfl (lv_at hl 1 rfl) ?_
      refine gf_S_39 hF hZ (0) (by omega) s0 rfl d_S_measureAll_14 ?_
      refine lv_iload_n hF.1 hF.2.1 d_S_measureAll_17 rfl (lv_at hl 0 rfl) ?_
      refine lv_aload_n hF.1 hF.2.1 d_S_measureAll_18 rfl (lv_at hl 1 rfl) ?_
      refine gf_S_28 hF hZ (0) (by omega) s0 rfl d_S_measureAll_19 ?_
      refine lv_aload_n hF.1 hF.2.1 d_S_measureAll_22 rfl (lv_at hl 1 rfl) ?_
      refine gf_S_14 hF hZ (0) (by omega) s0 rfl d_S_measureAll_23 ?_
      refine lv_aload_n hF.1 hF.2.1 d_S_measureAll_26 rfl (lv_at hl 1 rfl) ?_
      refine gf_S_21 hF hZ (0) (by omega) s0 rfl d_S_measureAll_27 ?_
      refine lv_iload_n hF.1 hF.2.1 d_S_measureAll_30 rfl (lv_at hl 0 rfl) ?_
      refine z_callr hZ (z_run cw_S_82 hF hZ (3) (c_D_lettersOf l (by omega) sD (j := i) (by omega)) (by decide) (by omega) d1 rfl rfl hl.1 rfl (Nat.le_of_ble_eq_true rfl) d_S_measureAll_31) (fun v enq H locs hp hZ => ?_)
      obtain ⟨he, hv⟩ := hp
      subst hv
      have hZ := hZ.to he
      refine z_calli hZ (z_run cw_S_89 hF hZ (77) (c_E_measure l (k1 := 1) (a1 := 2) (by omega) (by omega) (by omega) (by omega) sL (by omega) (by omega) (by omega) (by omega) hw.2.1 l1 m1 (by omega) sE (by omega) (by omega) (by omega) (by omega)) (by decide) (by omega) sE.1 rfl rfl hl.1 rfl (Nat.le_of_ble_eq_true rfl) d_S_measureAll_34) (fun v en2 H locs hq hZ => ?_)
      obtain ⟨hv, ⟨M1, hq1, -⟩, hq2⟩ := hq
      subst hv
      have h2 := h1.edt hq1 hq2
      have sF2 : en2 103 = .inl (zI G, 24, .inl fd) := by rw [hq2 103 (by omega)]; exact sF
      refine z_iast hF hZ (103) (by omega) sF2 (i) (by omega) (by omega) d_S_measureAll_37 (fun H locs hZ => ?_)
      obtain ⟨ze1, hn2⟩ : ∃ z, z = va_up en2 (103) (.inl (zI G, 24, .inl (upd (fd) (i) (nI (dist T w))))) := ⟨_, rfl⟩
      have hZ : zH G ad ze1 N s H locs := hZ.to hn2.symm
      have ff3 : ze1 (103) = .inl (zI G, 24, .inl (upd (fd) (i) (nI (dist T w)))) := by rw [hn2]; exact va_up_self _ _ _
      refine lv_iinc (k := 0) (v := (nI (i + 1))) hF.1 hF.2.1 d_S_measureAll_38 hl rfl (iinc_p (i)) (by decide) rfl (fun ls hl => ?_)
      have hl : lv_has ls 2 [(1, .int (nI (i + 1))), (0, .ref (ad (0)))] := hl
      refine lv_goto (tgt := 2) hF.1 hF.2.1 d_S_measureAll_41 (by decide) ?_
      refine ih (i + 1) ze1 (upd fd i (nI (dist T w))) H locs ls (by omega) (h2.dst ff3 (fun r hr => by rw [hn2, va_up_ne _ _ hr])) ff3 (fun k v hk hv => ?_) (fun r hr => ?_) hl hZ
      · by_cases y : k = i
        · subst y; cases hi.symm.trans hv; rw [pk_us]
        · rw [pk_un y]; exact hf k v (by omega) hv
      · rw [hn2, va_up_ne _ _ (by omega), hq2 r (by omega)]; exact hfr r hr
  have hh := h
  obtain ⟨-, -, sD, -, -, fd, sF⟩ := hh
  refine lv_iconst (v := (nI (0))) hF.1 hF.2.1 d_S_measureAll_0 (by decide) ?_
  refine lv_istore_n hF.1 hF.2.1 d_S_measureAll_1 rfl hl (by decide) rfl (fun ls hl => ?_)
  have hl : lv_has ls 2 [(1, .int (nI (0))), (0, .ref (ad (0)))] := hl
  exact loop C.length 0 en fd _ _ ls (by omega) h sF (fun k w hk => absurd hk (Nat.not_lt_zero _)) (fun _ _ => rfl) hl hZ
set_option maxHeartbeats 4000000 in
set_option maxRecDepth 100000 in
theorem c_S_isSuggestedBefore (l : Launch) {G : zG} {ad : Nat → Nat} {en : Nat → va_E} {N : Nat} {T : List Nat} {sg : Nat → Nat} {C : List wd_W} (hN : 104 ≤ N) (h : pS G ad en T sg C) {fd : Nat → Int32} (sF : en 103 = .inl (zI G, 24, .inl fd)) (hf : ∀ k w, C[k]? = some w → fd k = nI (dist T w)) (hso : wd_so C) {i j : Nat} {u w : wd_W} (hi : C[i]? = some u) (hj : C[j]? = some w) : zMi l y_S_isSuggestedBefore b_S_isSuggestedBefore 3 .boolean 2 G ad en N [.ref (ad (0)), .int (nI (i)), .int (nI (j))] (fun v en1 => en1 = en ∧ v = bI (wd_bt (dist T) u w)) := by
  have hh := h
  obtain ⟨s0, sL, sD, ⟨ME, sE⟩, ⟨MR, sR⟩, -, -⟩ := hh
  have hsL := sL
  obtain ⟨e1, l1, l26, f1, e2, l2⟩ := hsL
  have hsD := sD
  obtain ⟨d1, d2, ⟨g0, d3, d3g⟩, d4, d5, d6, d7⟩ := hsD
  have hil := wd_lt_of hi
  have hjl := wd_lt_of hj
  have hu := (d7 i u hi).2.1.2.1
  have hw := (d7 j w hj).2.1.2.1
  have b1 := dist_18 l1 hu
  have b2 := dist_18 l1 hw
  have m1 := hf i u hi
  have m2 := hf j w hj
  have hr0 := wd_lt_rank hso hi hj
  refine z_met (by decide) (Nat.le_of_ble_eq_true rfl) ?_
  intro p e s m below meth c ls hF hr hlocks hnam hZ hl
  have hF : CallFix p m c b_S_isSuggestedBefore 3 s ([.ref (ad (0)), .int (nI (i)), .int (nI (j))] : List Value).toArray zz R_S := hF
  have hl : lv_has ls 3 [(0, .ref (ad (0))), (1, .int (nI (i))), (2, .int (nI (j)))] := hl
  refine lv_aload_n hF.1 hF.2.1 d_S_isSuggestedBefore_0 rfl (lv_at hl 0 rfl) ?_
  refine gf_S_39 hF hZ (0) (by omega) s0 rfl d_S_isSuggestedBefore_1 ?_
  refine lv_iload_n hF.1 hF.2.1 d_S_isSuggestedBefore_4 rfl (lv_at hl 1 rfl) ?_
  refine z_iald hF hZ (103) (by omega) sF (i) (by omega) (by omega) d_S_isSuggestedBefore_5 ?_
  refine z_top (y := (nI (dist T u))) m1 ?_
  refine lv_aload_n hF.1 hF.2.1 d_S_isSuggestedBefore_6 rfl (lv_at hl 0 rfl) ?_
  refine gf_S_39 hF hZ (0) (by omega) s0 rfl d_S_isSuggestedBefore_7 ?_
  refine lv_iload_n hF.1 hF.2.1 d_S_isSuggestedBefore_10 rfl (lv_at hl 2 rfl) ?_
  refine z_iald hF hZ (103) (by omega) sF (j) (by omega) (by omega) d_S_isSuggestedBefore_11 ?_
  refine z_top (y := (nI (dist T w))) m2 ?_
  refine lv_icmp_eq (tgt := 36) hF.1 hF.2.1 d_S_isSuggestedBefore_12 (by decide) (fun q => ?_) (fun q => ?_)
  · have q := (nI_eq (by omega) (by omega)).mp q
    refine lv_aload_n hF.1 hF.2.1 d_S_isSuggestedBefore_36 rfl (lv_at hl 0 rfl) ?_
    refine gf_S_21 hF hZ (0) (by omega) s0 rfl d_S_isSuggestedBefore_37 ?_
    refine lv_iload_n hF.1 hF.2.1 d_S_isSuggestedBefore_40 rfl (lv_at hl 1 rfl) ?_
    refine lv_iload_n hF.1 hF.2.1 d_S_isSuggestedBefore_41 rfl (lv_at hl 2 rfl) ?_
    refine z_calli hZ (z_run cw_S_117 hF hZ (3) (c_D_isPreferred l (by omega) sD hi hj) (by decide) (by omega) d1 rfl rfl hl.1 rfl (Nat.le_of_ble_eq_true rfl) d_S_isSuggestedBefore_42) (fun v enq H locs hp hZ => ?_)
    obtain ⟨he, hv⟩ := hp
    subst hv
    have hZ := hZ.to he
    exact z_iret hF hr hlocks hZ (bI_nar _) ⟨rfl, by unfold wd_bt; rw [if_pos q, hr0]⟩ d_S_isSuggestedBefore_45
  · have q : ¬ dist T u = dist T w := fun z => q (by rw [z])
    refine lv_aload_n hF.1 hF.2.1 d_S_isSuggestedBefore_15 rfl (lv_at hl 0 rfl) ?_
    refine gf_S_39 hF hZ (0) (by omega) s0 rfl d_S_isSuggestedBefore_16 ?_
    refine lv_iload_n hF.1 hF.2.1 d_S_isSuggestedBefore_19 rfl (lv_at hl 1 rfl) ?_
    refine z_iald hF hZ (103) (by omega) sF (i) (by omega) (by omega) d_S_isSuggestedBefore_20 ?_
    refine z_top (y := (nI (dist T u))) m1 ?_
    refine lv_aload_n hF.1 hF.2.1 d_S_isSuggestedBefore_21 rfl (lv_at hl 0 rfl) ?_
    refine gf_S_39 hF hZ (0) (by omega) s0 rfl d_S_isSuggestedBefore_22 ?_
    refine lv_iload_n hF.1 hF.2.1 d_S_isSuggestedBefore_25 rfl (lv_at hl 2 rfl) ?_
    refine z_iald hF hZ (103) (by omega) sF (j) (by omega) (by omega) d_S_isSuggestedBefore_26 ?_
    refine z_top (y := (nI (dist T w))) m2 ?_
    refine lv_icmp_ge (tgt := 34) hF.1 hF.2.1 d_S_isSuggestedBefore_27 (by decide) (fun z => ?_) (fun z => ?_)
    · have z := (nI_leI (by omega) (by omega)).mp z
      refine lv_iconst (v := (nI (0))) hF.1 hF.2.1 d_S_isSuggestedBefore_34 (by decide) ?_
      exact z_iret hF hr hlocks hZ (by decide) ⟨rfl, by unfold wd_bt; rw [if_neg q, decide_eq_false (by omega)]; rfl⟩ d_S_isSuggestedBefore_35
    · have z : dist T u < dist T w := Nat.lt_of_not_le (fun y => z (nI_le y (by omega)))
      refine lv_iconst (v := (nI (1))) hF.1 hF.2.1 d_S_isSuggestedBefore_30 (by decide) ?_
      refine lv_goto (tgt := 35) hF.1 hF.2.1 d_S_isSuggestedBefore_31 (by decide) ?_
      exact z_iret hF hr hlocks hZ (by decide) ⟨rfl, by unfold wd_bt; rw [if_neg q, decide_eq_true z]; rfl⟩ d_S_isSuggestedBefore_35
set_option maxHeartbeats 4000000 in
set_option maxRecDepth 100000 in
theorem c_S_placeAmongSuggestions (l : Launch) {G : zG} {ad : Nat → Nat} {en : Nat → va_E} {N : Nat} {T : List Nat} {sg : Nat → Nat} {C : List wd_W} (hN : 104 ≤ N) (h : pS G ad en T sg C) {fd : Nat → Int32} (sF : en 103 = .inl (zI G, 24, .inl fd)) (hf : ∀ k w, C[k]? = some w → fd k = nI (dist T w)) (hso : wd_so C) {j : Nat} {w : wd_W} (hj : C[j]? = some w) : zMi l y_S_placeAmongSuggestions b_S_placeAmongSuggestions 4 .int 3 G ad en N [.ref (ad (0)), .int (nI (j))] (fun v en1 => en1 = en ∧ v = nI (C.countP (fun u => wd_bt (dist T) u w))) := by
  have hh := h
  obtain ⟨s0, sL, sD, ⟨ME, sE⟩, ⟨MR, sR⟩, -, -⟩ := hh
  have hsL := sL
  obtain ⟨e1, l1, l26, f1, e2, l2⟩ := hsL
  have hsD := sD
  obtain ⟨d1, d2, ⟨g0, d3, d3g⟩, d4, d5, d6, d7⟩ := hsD
  have hjl := wd_lt_of hj
  refine z_met (by decide) (Nat.le_of_ble_eq_true rfl) ?_
  intro p e s m below meth c ls hF hr hlocks hnam hZ hl
  have hF : CallFix p m c b_S_placeAmongSuggestions 4 s ([.ref (ad (0)), .int (nI (j))] : List Value).toArray zz R_S := hF
  have hl : lv_has ls 4 [(0, .ref (ad (0))), (1, .int (nI (j)))] := hl
  have loop : ∀ (n i c0 : Nat) (H : Heap) (locs : List Loc) (ls : Array Slot), (i + n = C.length) → (c0 = (C.take i).countP (fun u => wd_bt (dist T) u w)) → lv_has ls 4 [(3, .int (nI (i))), (2, .int (nI (c0))), (0, .ref (ad (0))), (1, .int (nI (j)))] → zH G ad en N s H locs → W p l e (zR 3) s m ([.ref (ad (0)), .int (nI (j))] : List Value).toArray below meth c H locs 0 0 (MQ below (zQi G ad N (fun v en1 => en1 = en ∧ v = nI (C.countP (fun u => wd_bt (dist T) u w)))) ([.ref (ad (0)), .int (nI (j))] : List Value).toArray s 0 0 (zA G)) (F0 m 4 ls []) := by
    intro n
    induction n with
    | zero =>
      intro i c0 H locs ls hin hp hl hZ
      refine lv_iload_n hF.1 hF.2.1 d_S_placeAmongSuggestions_4 rfl (lv_at hl 0 rfl) ?_
      refine lv_aload_n hF.1 hF.2.1 d_S_placeAmongSuggestions_5 rfl (lv_at hl 2 rfl) ?_
      refine gf_S_21 hF hZ (0) (by omega) s0 rfl d_S_placeAmongSuggestions_6 ?_
      refine gf_S_78 hF hZ (3) (by omega) d1 rfl d_S_placeAmongSuggestions_9 ?_
      refine lv_icmp_ge (tgt := 33) hF.1 hF.2.1 d_S_placeAmongSuggestions_12 (by decide) (fun _ => ?_) (fun h => absurd (nI_le (by omega) (by omega)) h)
      refine lv_iload_n hF.1 hF.2.1 d_S_placeAmongSuggestions_33 rfl (lv_at hl 1 rfl) ?_
      exact z_iret hF hr hlocks hZ rfl ⟨rfl, by rw [hp, List.take_of_length_le (by omega)]⟩ d_S_placeAmongSuggestions_34
    | succ n ih =>
      intro i c0 H locs ls hin hp hl hZ
      obtain ⟨u, hi⟩ := wd_some (show i < C.length by omega)
      have hct := wd_cnt_s (fun u => wd_bt (dist T) u w) hi
      refine lv_iload_n hF.1 hF.2.1 d_S_placeAmongSuggestions_4 rfl (lv_at hl 0 rfl) ?_
      refine lv_aload_n hF.1 hF.2.1 d_S_placeAmongSuggestions_5 rfl (lv_at hl 2 rfl) ?_
      refine gf_S_21 hF hZ (0) (by omega) s0 rfl d_S_placeAmongSuggestions_6 ?_
      refine gf_S_78 hF hZ (3) (by omega) d1 rfl d_S_placeAmongSuggestions_9 ?_
      refine lv_icmp_ge (tgt := 33) hF.1 hF.2.1 d_S_placeAmongSuggestions_12 (by decide) (fun h => absurd h (nI_ge (show i < C.length by omega) (by omega))) (fun _ => ?_)
      refine lv_aload_n hF.1 hF.2.1 d_S_placeAmongSuggestions_15 rfl (lv_at hl 2 rfl) ?_
      refine lv_iload_n hF.1 hF.2.1 d_S_placeAmongSuggestions_16 rfl (lv_at hl 0 rfl) ?_
      refine lv_iload_n hF.1 hF.2.1 d_S_placeAmongSuggestions_17 rfl (lv_at hl 3 rfl) ?_
      refine z_calli hZ (z_run cw_S_113 hF hZ (0) (c_S_isSuggestedBefore l hN h sF hf hso hi hj) (by decide) (by omega) s0 rfl rfl hl.1 rfl (Nat.le_of_ble_eq_true rfl) d_S_placeAmongSuggestions_18) (fun v enq H locs hp hZ => ?_)
      obtain ⟨he, hv⟩ := hp
      subst hv
      have hZ := hZ.to he
      refine lv_if_eq (tgt := 27) hF.1 hF.2.1 d_S_placeAmongSuggestions_21 (by decide) (fun q => ?_) (fun q => ?_)
      · have q := bI_0.mp q
        refine lv_iinc (k := 0) (v := (nI (i + 1))) hF.1 hF.2.1 d_S_placeAmongSuggestions_27 hl rfl (iinc_p (i)) (by decide) rfl (fun ls hl => ?_)
        have hl : lv_has ls 4 [(3, .int (nI (i + 1))), (2, .int (nI (c0))), (0, .ref (ad (0))), (1, .int (nI (j)))] := hl
        refine lv_goto (tgt := 4) hF.1 hF.2.1 d_S_placeAmongSuggestions_30 (by decide) ?_
        exact ih (i + 1) c0 H locs ls (by omega) (by rw [hct, q, ← hp]; rfl) hl hZ
      · have q := bI_1 q
        refine lv_iinc (k := 1) (v := (nI (c0 + 1))) hF.1 hF.2.1 d_S_placeAmongSuggestions_24 hl rfl (iinc_p (c0)) (by decide) rfl (fun ls hl => ?_)
        have hl : lv_has ls 4 [(2, .int (nI (c0 + 1))), (3, .int (nI (i))), (0, .ref (ad (0))), (1, .int (nI (j)))] := hl
        refine lv_iinc (k := 1) (v := (nI (i + 1))) hF.1 hF.2.1 d_S_placeAmongSuggestions_27 hl rfl (iinc_p (i)) (by decide) rfl (fun ls hl => ?_)
        have hl : lv_has ls 4 [(3, .int (nI (i + 1))), (2, .int (nI (c0 + 1))), (0, .ref (ad (0))), (1, .int (nI (j)))] := hl
        refine lv_goto (tgt := 4) hF.1 hF.2.1 d_S_placeAmongSuggestions_30 (by decide) ?_
        exact ih (i + 1) (c0 + 1) H locs ls (by omega) (by rw [hct, q, ← hp]; rfl) hl hZ
  refine lv_iconst (v := (nI (0))) hF.1 hF.2.1 d_S_placeAmongSuggestions_0 (by decide) ?_
  refine lv_istore_n hF.1 hF.2.1 d_S_placeAmongSuggestions_1 rfl hl (by decide) rfl (fun ls hl => ?_)
  have hl : lv_has ls 4 [(2, .int (nI (0))), (0, .ref (ad (0))), (1, .int (nI (j)))] := hl
  refine lv_iconst (v := (nI (0))) hF.1 hF.2.1 d_S_placeAmongSuggestions_2 (by decide) ?_
  refine lv_istore_n hF.1 hF.2.1 d_S_placeAmongSuggestions_3 rfl hl (by decide) rfl (fun ls hl => ?_)
  have hl : lv_has ls 4 [(3, .int (nI (0))), (2, .int (nI (0))), (0, .ref (ad (0))), (1, .int (nI (j)))] := hl
  exact loop C.length 0 0 _ _ ls (by omega) (by rw [List.take_zero]; rfl) hl hZ
set_option maxHeartbeats 4000000 in
set_option maxRecDepth 100000 in
theorem c_S_near (l : Launch) {G : zG} {ad : Nat → Nat} {en : Nat → va_E} {N : Nat} {T : List Nat} {sg : Nat → Nat} {C : List wd_W} (hN : 104 ≤ N) (h : pS G ad en T sg C) {dd : Int32} : zMi l y_S_near b_S_near 4 .int 5 G ad en N [.ref (ad (0)), .int (dd)] (fun v en1 => v = nI (C.countP (fun u => decide (nI (dist T u) ≤ dd))) ∧ pS G ad en1 T sg C ∧ ∀ r, 104 ≤ r → en1 r = en r) := by
  have s00 := h.1
  refine z_met (by decide) (Nat.le_of_ble_eq_true rfl) ?_
  intro p e s m below meth c ls hF hr hlocks hnam hZ hl
  have hF : CallFix p m c b_S_near 4 s ([.ref (ad (0)), .int (dd)] : List Value).toArray zz R_S := hF
  have hl : lv_has ls 4 [(0, .ref (ad (0))), (1, .int (dd))] := hl
  refine lv_aload_n hF.1 hF.2.1 d_S_near_0 rfl (lv_at hl 0 rfl) ?_
  refine z_callv hZ (z_run cw_S_93 hF hZ (0) (c_S_measureAll l hN h) (by decide) (by omega) s00 rfl rfl hl.1 rfl (Nat.le_of_ble_eq_true rfl) d_S_near_1) (fun en1 H locs hq hZ => ?_)
  obtain ⟨h1, ⟨fd, sF, hf⟩, hfr⟩ := hq
  have hh := h1
  obtain ⟨s0, sL, sD, ⟨ME, sE⟩, ⟨MR, sR⟩, -, -⟩ := hh
  have hsL := sL
  obtain ⟨e1, l1, l26, f1, e2, l2⟩ := hsL
  have hsD := sD
  obtain ⟨d1, d2, ⟨g0, d3, d3g⟩, d4, d5, d6, d7⟩ := hsD
  have loop : ∀ (n i c0 : Nat) (H : Heap) (locs : List Loc) (ls : Array Slot), (i + n = C.length) → (c0 = (C.take i).countP (fun u => decide (nI (dist T u) ≤ dd))) → lv_has ls 4 [(3, .int (nI (i))), (2, .int (nI (c0))), (0, .ref (ad (0))), (1, .int (dd))] → zH G ad en1 N s H locs → W p l e (zR 5) s m ([.ref (ad (0)), .int (dd)] : List Value).toArray below meth c H locs 0 0 (MQ below (zQi G ad N (fun v en1 => v = nI (C.countP (fun u => decide (nI (dist T u) ≤ dd))) ∧ pS G ad en1 T sg C ∧ ∀ r, 104 ≤ r → en1 r = en r)) ([.ref (ad (0)), .int (dd)] : List Value).toArray s 0 0 (zA G)) (F0 m 8 ls []) := by
    intro n
    induction n with
    | zero =>
      intro i c0 H locs ls hin hp hl hZ
      refine lv_iload_n hF.1 hF.2.1 d_S_near_8 rfl (lv_at hl 0 rfl) ?_
      refine lv_aload_n hF.1 hF.2.1 d_S_near_9 rfl (lv_at hl 2 rfl) ?_
      refine gf_S_21 hF hZ (0) (by omega) s0 rfl d_S_near_10 ?_
      refine gf_S_78 hF hZ (3) (by omega) d1 rfl d_S_near_13 ?_
      refine lv_icmp_ge (tgt := 38) hF.1 hF.2.1 d_S_near_16 (by decide) (fun _ => ?_) (fun h => absurd (nI_le (by omega) (by omega)) h)
      refine lv_iload_n hF.1 hF.2.1 d_S_near_38 rfl (lv_at hl 1 rfl) ?_
      exact z_iret hF hr hlocks hZ rfl ⟨by rw [hp, List.take_of_length_le (by omega)], h1, hfr⟩ d_S_near_39
    | succ n ih =>
      intro i c0 H locs ls hin hp hl hZ
      obtain ⟨u, hi⟩ := wd_some (show i < C.length by omega)
      have hct := wd_cnt_s (fun u => decide (nI (dist T u) ≤ dd)) hi
      refine lv_iload_n hF.1 hF.2.1 d_S_near_8 rfl (lv_at hl 0 rfl) ?_
      refine lv_aload_n hF.1 hF.2.1 d_S_near_9 rfl (lv_at hl 2 rfl) ?_
      refine gf_S_21 hF hZ (0) (by omega) s0 rfl d_S_near_10 ?_
      refine gf_S_78 hF hZ (3) (by omega) d1 rfl d_S_near_13 ?_
      refine lv_icmp_ge (tgt := 38) hF.1 hF.2.1 d_S_near_16 (by decide) (fun h => absurd h (nI_ge (show i < C.length by omega) (by omega))) (fun _ => ?_)
      refine lv_aload_n hF.1 hF.2.1 d_S_near_19 rfl (lv_at hl 2 rfl) ?_
      refine gf_S_39 hF hZ (0) (by omega) s0 rfl d_S_near_20 ?_
      refine lv_iload_n hF.1 hF.2.1 d_S_near_23 rfl (lv_at hl 0 rfl) ?_
      refine z_iald hF hZ (103) (by omega) sF (i) (by omega) (by omega) d_S_near_24 ?_
      refine z_top (y := (nI (dist T u))) (hf i u hi) ?_
      refine lv_iload_n hF.1 hF.2.1 d_S_near_25 rfl (lv_at hl 3 rfl) ?_
      refine lv_icmp_gt (tgt := 32) hF.1 hF.2.1 d_S_near_26 (by decide) (fun q => ?_) (fun q => ?_)
      · have q : ¬ nI (dist T u) ≤ dd := fun z => by
          rw [Int32.lt_iff_toInt_lt] at q; rw [Int32.le_iff_toInt_le] at z; omega
        refine lv_iinc (k := 0) (v := (nI (i + 1))) hF.1 hF.2.1 d_S_near_32 hl rfl (iinc_p (i)) (by decide) rfl (fun ls hl => ?_)
        have hl : lv_has ls 4 [(3, .int (nI (i + 1))), (2, .int (nI (c0))), (0, .ref (ad (0))), (1, .int (dd))] := hl
        refine lv_goto (tgt := 8) hF.1 hF.2.1 d_S_near_35 (by decide) ?_
        exact ih (i + 1) c0 H locs ls (by omega) (by rw [hct, decide_eq_false q, ← hp]; rfl) hl hZ
      · have q : nI (dist T u) ≤ dd := by
          rw [Int32.lt_iff_toInt_lt] at q; rw [Int32.le_iff_toInt_le]; omega
        refine lv_iinc (k := 1) (v := (nI (c0 + 1))) hF.1 hF.2.1 d_S_near_29 hl rfl (iinc_p (c0)) (by decide) rfl (fun ls hl => ?_)
        have hl : lv_has ls 4 [(2, .int (nI (c0 + 1))), (3, .int (nI (i))), (0, .ref (ad (0))), (1, .int (dd))] := hl
        refine lv_iinc (k := 1) (v := (nI (i + 1))) hF.1 hF.2.1 d_S_near_32 hl rfl (iinc_p (i)) (by decide) rfl (fun ls hl => ?_)
        have hl : lv_has ls 4 [(3, .int (nI (i + 1))), (2, .int (nI (c0 + 1))), (0, .ref (ad (0))), (1, .int (dd))] := hl
        refine lv_goto (tgt := 8) hF.1 hF.2.1 d_S_near_35 (by decide) ?_
        exact ih (i + 1) (c0 + 1) H locs ls (by omega) (by rw [hct, decide_eq_true q, ← hp]; rfl) hl hZ
  refine lv_iconst (v := (nI (0))) hF.1 hF.2.1 d_S_near_4 (by decide) ?_
  refine lv_istore_n hF.1 hF.2.1 d_S_near_5 rfl hl (by decide) rfl (fun ls hl => ?_)
  have hl : lv_has ls 4 [(2, .int (nI (0))), (0, .ref (ad (0))), (1, .int (dd))] := hl
  refine lv_iconst (v := (nI (0))) hF.1 hF.2.1 d_S_near_6 (by decide) ?_
  refine lv_istore_n hF.1 hF.2.1 d_S_near_7 rfl hl (by decide) rfl (fun ls hl => ?_)
  have hl : lv_has ls 4 [(3, .int (nI (0))), (2, .int (nI (0))), (0, .ref (ad (0))), (1, .int (dd))] := hl
  exact loop C.length 0 0 _ _ ls (by omega) (by rw [List.take_zero]; rfl) hl hZ
set_option maxHeartbeats 4000000 in
set_option maxRecDepth 100000 in
theorem c_S_suggest (l : Launch) {G : zG} {ad : Nat → Nat} {en : Nat → va_E} {N : Nat} {T : List Nat} {sg : Nat → Nat} {C : List wd_W} (hN : 104 ≤ N) (h : pS G ad en T sg C) (hso : wd_so C) {i0 dd : Int32} : zMi l y_S_suggest b_S_suggest 4 .int 5 G ad en N [.ref (ad (0)), .int (i0), .int (dd)] (fun v en1 => wd_sug C (dist T) (fun u => decide (nI (dist T u) ≤ dd)) i0 v ∧ pS G ad en1 T sg C ∧ ∀ r, 104 ≤ r → en1 r = en r) := by
  have s00 := h.1
  refine z_met (by decide) (Nat.le_of_ble_eq_true rfl) ?_
  intro p e s m below meth c ls hF hr hlocks hnam hZ hl
  have hF : CallFix p m c b_S_suggest 4 s ([.ref (ad (0)), .int (i0), .int (dd)] : List Value).toArray zz R_S := hF
  have hl : lv_has ls 4 [(0, .ref (ad (0))), (1, .int (i0)), (2, .int (dd))] := hl
  refine lv_aload_n hF.1 hF.2.1 d_S_suggest_0 rfl (lv_at hl 0 rfl) ?_
  refine z_callv hZ (z_run cw_S_93 hF hZ (0) (c_S_measureAll l hN h) (by decide) (by omega) s00 rfl rfl hl.1 rfl (Nat.le_of_ble_eq_true rfl) d_S_suggest_1) (fun en1 H locs hq hZ => ?_)
  obtain ⟨h1, ⟨fd, sF, hf⟩, hfr⟩ := hq
  have hh := h1
  obtain ⟨s0, sL, sD, ⟨ME, sE⟩, ⟨MR, sR⟩, -, -⟩ := hh
  have hsL := sL
  obtain ⟨e1, l1, l26, f1, e2, l2⟩ := hsL
  have hsD := sD
  obtain ⟨d1, d2, ⟨g0, d3, d3g⟩, d4, d5, d6, d7⟩ := hsD
  have hdm : ∀ u ∈ C, dist T u < 2 ^ 30 := fun u hu => by
    obtain ⟨k, hk⟩ := List.getElem?_of_mem hu
    have := dist_18 l1 (d7 k u hk).2.1.2.1
    omega
  have loop : ∀ (n i : Nat) (H : Heap) (locs : List Loc) (ls : Array Slot), (i + n = C.length) → (∀ k v, k < i → C[k]? = some v → nI (dist T v) ≤ dd → ¬ i0 = nI (C.countP (fun u => wd_bt (dist T) u v))) → lv_has ls 4 [(3, .int (nI (i))), (0, .ref (ad (0))), (1, .int (i0)), (2, .int (dd))] → zH G ad en1 N s H locs → W p l e (zR 5) s m ([.ref (ad (0)), .int (i0), .int (dd)] : List Value).toArray below meth c H locs 0 0 (MQ below (zQi G ad N (fun v en1 => wd_sug C (dist T) (fun u => decide (nI (dist T u) ≤ dd)) i0 v ∧ pS G ad en1 T sg C ∧ ∀ r, 104 ≤ r → en1 r = en r)) ([.ref (ad (0)), .int (i0), .int (dd)] : List Value).toArray s 0 0 (zA G)) (F0 m 6 ls []) := by
    intro n
    induction n with
    | zero =>
      intro i H locs ls hin hp hl hZ
      refine lv_iload_n hF.1 hF.2.1 d_S_suggest_6 rfl (lv_at hl 0 rfl) ?_
      refine lv_aload_n hF.1 hF.2.1 d_S_suggest_7 rfl (lv_at hl 1 rfl) ?_
      refine gf_S_21 hF hZ (0) (by omega) s0 rfl d_S_suggest_8 ?_
      refine gf_S_78 hF hZ (3) (by omega) d1 rfl d_S_suggest_11 ?_
      refine lv_icmp_ge (tgt := 44) hF.1 hF.2.1 d_S_suggest_14 (by decide) (fun _ => ?_) (fun h => absurd (nI_le (by omega) (by omega)) h)
      refine lv_iconst (v := ((-1))) hF.1 hF.2.1 d_S_suggest_44 (by decide) ?_
      refine z_iret hF hr hlocks hZ rfl ⟨Or.inr ⟨rfl, fun v hv qv => ?_⟩, h1, hfr⟩ d_S_suggest_45
      obtain ⟨k, hk⟩ := List.getElem?_of_mem hv
      have qv := of_decide_eq_true qv
      rw [← wd_cnt_qm hdm hv qv]
      exact hp k v (by have := wd_lt_of hk; omega) hk qv
    | succ n ih =>
      intro i H locs ls hin hp hl hZ
      obtain ⟨u, hi⟩ := wd_some (show i < C.length by omega)
      refine lv_iload_n hF.1 hF.2.1 d_S_suggest_6 rfl (lv_at hl 0 rfl) ?_
      refine lv_aload_n hF.1 hF.2.1 d_S_suggest_7 rfl (lv_at hl 1 rfl) ?_
      refine gf_S_21 hF hZ (0) (by omega) s0 rfl d_S_suggest_8 ?_
      refine gf_S_78 hF hZ (3) (by omega) d1 rfl d_S_suggest_11 ?_
      refine lv_icmp_ge (tgt := 44) hF.1 hF.2.1 d_S_suggest_14 (by decide) (fun h => absurd h (nI_ge (show i < C.length by omega) (by omega))) (fun _ => ?_)
      refine lv_aload_n hF.1 hF.2.1 d_S_suggest_17 rfl (lv_at hl 1 rfl) ?_
      refine gf_S_39 hF hZ (0) (by omega) s0 rfl d_S_suggest_18 ?_
      refine lv_iload_n hF.1 hF.2.1 d_S_suggest_21 rfl (lv_at hl 0 rfl) ?_
      refine z_iald hF hZ (103) (by omega) sF (i) (by omega) (by omega) d_S_suggest_22 ?_
      refine z_top (y := (nI (dist T u))) (hf i u hi) ?_
      refine lv_iload_n hF.1 hF.2.1 d_S_suggest_23 rfl (lv_at hl 3 rfl) ?_
      refine lv_icmp_gt (tgt := 38) hF.1 hF.2.1 d_S_suggest_24 (by decide) (fun q => ?_) (fun q => ?_)
      · have q : ¬ nI (dist T u) ≤ dd := fun z => by
          rw [Int32.lt_iff_toInt_lt] at q; rw [Int32.le_iff_toInt_le] at z; omega
        refine lv_iinc (k := 0) (v := (nI (i + 1))) hF.1 hF.2.1 d_S_suggest_38 hl rfl (iinc_p (i)) (by decide) rfl (fun ls hl => ?_)
        have hl : lv_has ls 4 [(3, .int (nI (i + 1))), (0, .ref (ad (0))), (1, .int (i0)), (2, .int (dd))] := hl
        refine lv_goto (tgt := 6) hF.1 hF.2.1 d_S_suggest_41 (by decide) ?_
        refine ih (i + 1) H locs ls (by omega) (fun k v hk hv qv => ?_) hl hZ
        by_cases y : k = i
        · subst y; cases hi.symm.trans hv; exact absurd qv q
        · exact hp k v (by omega) hv qv
      · have q : nI (dist T u) ≤ dd := by
          rw [Int32.lt_iff_toInt_lt] at q; rw [Int32.le_iff_toInt_le]; omega
        refine lv_aload_n hF.1 hF.2.1 d_S_suggest_27 rfl (lv_at hl 1 rfl) ?_
        refine lv_iload_n hF.1 hF.2.1 d_S_suggest_28 rfl (lv_at hl 0 rfl) ?_
        refine z_calli hZ (z_run cw_S_96 hF hZ (0) (c_S_placeAmongSuggestions l hN h1 sF hf hso hi) (by decide) (by omega) s0 rfl rfl hl.1 rfl (Nat.le_of_ble_eq_true rfl) d_S_suggest_29) (fun v enq H locs hp hZ => ?_)
        obtain ⟨he, hv⟩ := hp
        subst hv
        have hZ := hZ.to he
        refine lv_iload_n hF.1 hF.2.1 d_S_suggest_32 rfl (lv_at hl 2 rfl) ?_
        refine lv_icmp_ne (tgt := 38) hF.1 hF.2.1 d_S_suggest_33 (by decide) (fun y2 => ?_) (fun y2 => ?_)
        · refine lv_iinc (k := 0) (v := (nI (i + 1))) hF.1 hF.2.1 d_S_suggest_38 hl rfl (iinc_p (i)) (by decide) rfl (fun ls hl => ?_)
          have hl : lv_has ls 4 [(3, .int (nI (i + 1))), (0, .ref (ad (0))), (1, .int (i0)), (2, .int (dd))] := hl
          refine lv_goto (tgt := 6) hF.1 hF.2.1 d_S_suggest_41 (by decide) ?_
          refine ih (i + 1) H locs ls (by omega) (fun k v hk hv qv => ?_) hl hZ
          by_cases y : k = i
          · subst y; cases hi.symm.trans hv; exact fun z => y2 z.symm
          · exact hp k v (by omega) hv qv
        · refine lv_iload_n hF.1 hF.2.1 d_S_suggest_36 rfl (lv_at hl 0 rfl) ?_
          exact z_iret hF hr hlocks hZ rfl ⟨Or.inl ⟨i, u, hi, decide_eq_true q, by rw [← wd_cnt_qm hdm (List.mem_of_getElem? hi) q]; exact y2.symm, rfl⟩, h1, hfr⟩ d_S_suggest_37
  refine lv_iconst (v := (nI (0))) hF.1 hF.2.1 d_S_suggest_4 (by decide) ?_
  refine lv_istore_n hF.1 hF.2.1 d_S_suggest_5 rfl hl (by decide) rfl (fun ls hl => ?_)
  have hl : lv_has ls 4 [(3, .int (nI (0))), (0, .ref (ad (0))), (1, .int (i0)), (2, .int (dd))] := hl
  exact loop C.length 0 _ _ ls (by omega) (fun k v hk => absurd hk (Nat.not_lt_zero _)) hl hZ
set_option maxHeartbeats 4000000 in
set_option maxRecDepth 100000 in
theorem c_S_isCompletion (l : Launch) {G : zG} {ad : Nat → Nat} {en : Nat → va_E} {N : Nat} {T : List Nat} {sg : Nat → Nat} {C : List wd_W} (hN : 104 ≤ N) (h : pS G ad en T sg C) {j : Nat} {w : wd_W} (hj : C[j]? = some w) : zMi l y_S_isCompletion b_S_isCompletion 2 .boolean 3 G ad en N [.ref (ad (0)), .int (nI (j))] (fun v en1 => en1 = en ∧ v = bI (wpre w.1 T)) := by
  have hh := h
  obtain ⟨s0, sL, sD, ⟨ME, sE⟩, ⟨MR, sR⟩, fd, sF⟩ := hh
  have hsL := sL
  obtain ⟨e1, l1, l26, f1, e2, l2⟩ := hsL
  have hsD := sD
  obtain ⟨d1, d2, ⟨g0, d3, d3g⟩, d4, d5, d6, d7⟩ := hsD
  have hjl := wd_lt_of hj
  have hsj := d4 j (by omega)
  have hw := d7 j w hj
  have hwL := hw.2.1
  obtain ⟨e5, m1, m26, f5, e6, m2⟩ := hwL
  refine z_met (by decide) (Nat.le_of_ble_eq_true rfl) ?_
  intro p e s m below meth c ls hF hr hlocks hnam hZ hl
  have hF : CallFix p m c b_S_isCompletion 2 s ([.ref (ad (0)), .int (nI (j))] : List Value).toArray zz R_S := hF
  have hl : lv_has ls 2 [(0, .ref (ad (0))), (1, .int (nI (j)))] := hl
  refine lv_aload_n hF.1 hF.2.1 d_S_isCompletion_0 rfl (lv_at hl 0 rfl) ?_
  refine gf_S_21 hF hZ (0) (by omega) s0 rfl d_S_isCompletion_1 ?_
  refine lv_iload_n hF.1 hF.2.1 d_S_isCompletion_4 rfl (lv_at hl 1 rfl) ?_
  refine z_callr hZ (z_run cw_S_82 hF hZ (3) (c_D_lettersOf l (by omega) sD (j := j) hjl) (by decide) (by omega) d1 rfl rfl hl.1 rfl (Nat.le_of_ble_eq_true rfl) d_S_isCompletion_5) (fun v enq H locs hp hZ => ?_)
  obtain ⟨he, hv⟩ := hp
  subst hv
  have hZ := hZ.to he
  refine lv_aload_n hF.1 hF.2.1 d_S_isCompletion_8 rfl (lv_at hl 0 rfl) ?_
  refine gf_S_14 hF hZ (0) (by omega) s0 rfl d_S_isCompletion_9 ?_
  refine z_calli hZ (z_run cw_S_120 hF hZ (6 + 3 * sg (j)) (c_L_beginsWith l (by omega) (by omega) (by omega) (by omega) hw.2.1 (k2 := 1) (ka2 := 2) (by omega) (by omega) (by omega) (by omega) sL) (by decide) (by omega) e5 rfl rfl hl.1 rfl (Nat.le_of_ble_eq_true rfl) d_S_isCompletion_12) (fun v enq H locs hp hZ => ?_)
  obtain ⟨he, hv⟩ := hp
  subst hv
  have hZ := hZ.to he
  exact z_iret hF hr hlocks hZ (bI_nar _) ⟨rfl, rfl⟩ d_S_isCompletion_15
set_option maxHeartbeats 4000000 in
set_option maxRecDepth 100000 in
theorem c_S_placeAmongCompletions (l : Launch) {G : zG} {ad : Nat → Nat} {en : Nat → va_E} {N : Nat} {T : List Nat} {sg : Nat → Nat} {C : List wd_W} (hN : 104 ≤ N) (h : pS G ad en T sg C) (hso : wd_so C) {j : Nat} {w : wd_W} (hj : C[j]? = some w) : zMi l y_S_placeAmongCompletions b_S_placeAmongCompletions 4 .int 4 G ad en N [.ref (ad (0)), .int (nI (j))] (fun v en1 => en1 = en ∧ v = nI (C.countP (fun u => wpre u.1 T && wd_bt (fun _ => 0) u w))) := by
  have hh := h
  obtain ⟨s0, sL, sD, ⟨ME, sE⟩, ⟨MR, sR⟩, fd, sF⟩ := hh
  have hsL := sL
  obtain ⟨e1, l1, l26, f1, e2, l2⟩ := hsL
  have hsD := sD
  obtain ⟨d1, d2, ⟨g0, d3, d3g⟩, d4, d5, d6, d7⟩ := hsD
  have hjl := wd_lt_of hj
  refine z_met (by decide) (Nat.le_of_ble_eq_true rfl) ?_
  intro p e s m below meth c ls hF hr hlocks hnam hZ hl
  have hF : CallFix p m c b_S_placeAmongCompletions 4 s ([.ref (ad (0)), .int (nI (j))] : List Value).toArray zz R_S := hF
  have hl : lv_has ls 4 [(0, .ref (ad (0))), (1, .int (nI (j)))] := hl
  have loop : ∀ (n i c0 : Nat) (H : Heap) (locs : List Loc) (ls : Array Slot), (i + n = C.length) → (c0 = (C.take i).countP (fun u => wpre u.1 T && wd_bt (fun _ => 0) u w)) → lv_has ls 4 [(3, .int (nI (i))), (2, .int (nI (c0))), (0, .ref (ad (0))), (1, .int (nI (j)))] → zH G ad en N s H locs → W p l e (zR 4) s m ([.ref (ad (0)), .int (nI (j))] : List Value).toArray below meth c H locs 0 0 (MQ below (zQi G ad N (fun v en1 => en1 = en ∧ v = nI (C.countP (fun u => wpre u.1 T && wd_bt (fun _ => 0) u w)))) ([.ref (ad (0)), .int (nI (j))] : List Value).toArray s 0 0 (zA G)) (F0 m 4 ls []) := by
    intro n
    induction n with
    | zero =>
      intro i c0 H locs ls hin hp hl hZ
      refine lv_iload_n hF.1 hF.2.1 d_S_placeAmongCompletions_4 rfl (lv_at hl 0 rfl) ?_
      refine lv_aload_n hF.1 hF.2.1 d_S_placeAmongCompletions_5 rfl (lv_at hl 2 rfl) ?_
      refine gf_S_21 hF hZ (0) (by omega) s0 rfl d_S_placeAmongCompletions_6 ?_
      refine gf_S_78 hF hZ (3) (by omega) d1 rfl d_S_placeAmongCompletions_9 ?_
      refine lv_icmp_ge (tgt := 44) hF.1 hF.2.1 d_S_placeAmongCompletions_12 (by decide) (fun _ => ?_) (fun h => absurd (nI_le (by omega) (by omega)) h)
      refine lv_iload_n hF.1 hF.2.1 d_S_placeAmongCompletions_44 rfl (lv_at hl 1 rfl) ?_
      exact z_iret hF hr hlocks hZ rfl ⟨rfl, by rw [hp, List.take_of_length_le (by omega)]⟩ d_S_placeAmongCompletions_45
    | succ n ih =>
      intro i c0 H locs ls hin hp hl hZ
      obtain ⟨u, hi⟩ := wd_some (show i < C.length by omega)
      have hct := wd_cnt_s (fun u => wpre u.1 T && wd_bt (fun _ => 0) u w) hi
      have hr0 := wd_lt_rank hso hi hj
      refine lv_iload_n hF.1 hF.2.1 d_S_placeAmongCompletions_4 rfl (lv_at hl 0 rfl) ?_
      refine lv_aload_n hF.1 hF.2.1 d_S_placeAmongCompletions_5 rfl (lv_at hl 2 rfl) ?_
      refine gf_S_21 hF hZ (0) (by omega) s0 rfl d_S_placeAmongCompletions_6 ?_
      refine gf_S_78 hF hZ (3) (by omega) d1 rfl d_S_placeAmongCompletions_9 ?_
      refine lv_icmp_ge (tgt := 44) hF.1 hF.2.1 d_S_placeAmongCompletions_12 (by decide) (fun h => absurd h (nI_ge (show i < C.length by omega) (by omega))) (fun _ => ?_)
      refine lv_aload_n hF.1 hF.2.1 d_S_placeAmongCompletions_15 rfl (lv_at hl 2 rfl) ?_
      refine lv_iload_n hF.1 hF.2.1 d_S_placeAmongCompletions_16 rfl (lv_at hl 0 rfl) ?_
      refine z_calli hZ (z_run cw_S_99 hF hZ (0) (c_S_isCompletion l hN h hi) (by decide) (by omega) s0 rfl rfl hl.1 rfl (Nat.le_of_ble_eq_true rfl) d_S_placeAmongCompletions_17) (fun v enq H locs hp hZ => ?_)
      obtain ⟨he, hv⟩ := hp
      subst hv
      have hZ := hZ.to he
      refine lv_if_eq (tgt := 38) hF.1 hF.2.1 d_S_placeAmongCompletions_20 (by decide) (fun q => ?_) (fun q => ?_)
      · have q := bI_0.mp q
        refine lv_iinc (k := 0) (v := (nI (i + 1))) hF.1 hF.2.1 d_S_placeAmongCompletions_38 hl rfl (iinc_p (i)) (by decide) rfl (fun ls hl => ?_)
        have hl : lv_has ls 4 [(3, .int (nI (i + 1))), (2, .int (nI (c0))), (0, .ref (ad (0))), (1, .int (nI (j)))] := hl
        refine lv_goto (tgt := 4) hF.1 hF.2.1 d_S_placeAmongCompletions_41 (by decide) ?_
        exact ih (i + 1) c0 H locs ls (by omega) (by rw [hct, q, ← hp]; rfl) hl hZ
      · have q := bI_1 q
        refine lv_aload_n hF.1 hF.2.1 d_S_placeAmongCompletions_23 rfl (lv_at hl 2 rfl) ?_
        refine gf_S_21 hF hZ (0) (by omega) s0 rfl d_S_placeAmongCompletions_24 ?_
        refine lv_iload_n hF.1 hF.2.1 d_S_placeAmongCompletions_27 rfl (lv_at hl 0 rfl) ?_
        refine lv_iload_n hF.1 hF.2.1 d_S_placeAmongCompletions_28 rfl (lv_at hl 3 rfl) ?_
        refine z_calli hZ (z_run cw_S_117 hF hZ (3) (c_D_isPreferred l (by omega) sD hi hj) (by decide) (by omega) d1 rfl rfl hl.1 rfl (Nat.le_of_ble_eq_true rfl) d_S_placeAmongCompletions_29) (fun v enq H locs hp hZ => ?_)
        obtain ⟨he, hv⟩ := hp
        subst hv
        have hZ := hZ.to he
        have hbt : wd_bt (fun _ => 0) u w = if u.2 = w.2 then decide (i < j) else decide (w.2 < u.2) := by unfold wd_bt; rw [if_pos rfl, hr0]
        refine lv_if_eq (tgt := 38) hF.1 hF.2.1 d_S_placeAmongCompletions_32 (by decide) (fun y => ?_) (fun y => ?_)
        · have y := bI_0.mp y
          rw [← hbt] at y
          refine lv_iinc (k := 0) (v := (nI (i + 1))) hF.1 hF.2.1 d_S_placeAmongCompletions_38 hl rfl (iinc_p (i)) (by decide) rfl (fun ls hl => ?_)
          have hl : lv_has ls 4 [(3, .int (nI (i + 1))), (2, .int (nI (c0))), (0, .ref (ad (0))), (1, .int (nI (j)))] := hl
          refine lv_goto (tgt := 4) hF.1 hF.2.1 d_S_placeAmongCompletions_41 (by decide) ?_
          exact ih (i + 1) c0 H locs ls (by omega) (by rw [hct, q, y, ← hp]; rfl) hl hZ
        · have y := bI_1 y
          rw [← hbt] at y
          refine lv_iinc (k := 1) (v := (nI (c0 + 1))) hF.1 hF.2.1 d_S_placeAmongCompletions_35 hl rfl (iinc_p (c0)) (by decide) rfl (fun ls hl => ?_)
          have hl : lv_has ls 4 [(2, .int (nI (c0 + 1))), (3, .int (nI (i))), (0, .ref (ad (0))), (1, .int (nI (j)))] := hl
          refine lv_iinc (k := 1) (v := (nI (i + 1))) hF.1 hF.2.1 d_S_placeAmongCompletions_38 hl rfl (iinc_p (i)) (by decide) rfl (fun ls hl => ?_)
          have hl : lv_has ls 4 [(3, .int (nI (i + 1))), (2, .int (nI (c0 + 1))), (0, .ref (ad (0))), (1, .int (nI (j)))] := hl
          refine lv_goto (tgt := 4) hF.1 hF.2.1 d_S_placeAmongCompletions_41 (by decide) ?_
          exact ih (i + 1) (c0 + 1) H locs ls (by omega) (by rw [hct, q, y, ← hp]; rfl) hl hZ
  refine lv_iconst (v := (nI (0))) hF.1 hF.2.1 d_S_placeAmongCompletions_0 (by decide) ?_
  refine lv_istore_n hF.1 hF.2.1 d_S_placeAmongCompletions_1 rfl hl (by decide) rfl (fun ls hl => ?_)
  have hl : lv_has ls 4 [(2, .int (nI (0))), (0, .ref (ad (0))), (1, .int (nI (j)))] := hl
  refine lv_iconst (v := (nI (0))) hF.1 hF.2.1 d_S_placeAmongCompletions_2 (by decide) ?_
  refine lv_istore_n hF.1 hF.2.1 d_S_placeAmongCompletions_3 rfl hl (by decide) rfl (fun ls hl => ?_)
  have hl : lv_has ls 4 [(3, .int (nI (0))), (2, .int (nI (0))), (0, .ref (ad (0))), (1, .int (nI (j)))] := hl
  exact loop C.length 0 0 _ _ ls (by omega) (by rw [List.take_zero]; rfl) hl hZ
set_option maxHeartbeats 4000000 in
set_option maxRecDepth 100000 in
theorem c_S_complete (l : Launch) {G : zG} {ad : Nat → Nat} {en : Nat → va_E} {N : Nat} {T : List Nat} {sg : Nat → Nat} {C : List wd_W} (hN : 104 ≤ N) (h : pS G ad en T sg C) (hso : wd_so C) {i0 : Int32} : zMi l y_S_complete b_S_complete 3 .int 5 G ad en N [.ref (ad (0)), .int (i0)] (fun v en1 => en1 = en ∧ wd_sug C (fun _ => 0) (fun u => wpre u.1 T) i0 v) := by
  have hh := h
  obtain ⟨s0, sL, sD, ⟨ME, sE⟩, ⟨MR, sR⟩, fd, sF⟩ := hh
  have hsL := sL
  obtain ⟨e1, l1, l26, f1, e2, l2⟩ := hsL
  have hsD := sD
  obtain ⟨d1, d2, ⟨g0, d3, d3g⟩, d4, d5, d6, d7⟩ := hsD
  refine z_met (by decide) (Nat.le_of_ble_eq_true rfl) ?_
  intro p e s m below meth c ls hF hr hlocks hnam hZ hl
  have hF : CallFix p m c b_S_complete 3 s ([.ref (ad (0)), .int (i0)] : List Value).toArray zz R_S := hF
  have hl : lv_has ls 3 [(0, .ref (ad (0))), (1, .int (i0))] := hl
  have loop : ∀ (n i : Nat) (H : Heap) (locs : List Loc) (ls : Array Slot), (i + n = C.length) → (∀ k v, k < i → C[k]? = some v → wpre v.1 T = true → ¬ i0 = nI (C.countP (fun u => wpre u.1 T && wd_bt (fun _ => 0) u v))) → lv_has ls 3 [(2, .int (nI (i))), (0, .ref (ad (0))), (1, .int (i0))] → zH G ad en N s H locs → W p l e (zR 5) s m ([.ref (ad (0)), .int (i0)] : List Value).toArray below meth c H locs 0 0 (MQ below (zQi G ad N (fun v en1 => en1 = en ∧ wd_sug C (fun _ => 0) (fun u => wpre u.1 T) i0 v)) ([.ref (ad (0)), .int (i0)] : List Value).toArray s 0 0 (zA G)) (F0 m 2 ls []) := by
    intro n
    induction n with
    | zero =>
      intro i H locs ls hin hp hl hZ
      refine lv_iload_n hF.1 hF.2.1 d_S_complete_2 rfl (lv_at hl 0 rfl) ?_
      refine lv_aload_n hF.1 hF.2.1 d_S_complete_3 rfl (lv_at hl 1 rfl) ?_
      refine gf_S_21 hF hZ (0) (by omega) s0 rfl d_S_complete_4 ?_
      refine gf_S_78 hF hZ (3) (by omega) d1 rfl d_S_complete_7 ?_
      refine lv_icmp_ge (tgt := 38) hF.1 hF.2.1 d_S_complete_10 (by decide) (fun _ => ?_) (fun h => absurd (nI_le (by omega) (by omega)) h)
      refine lv_iconst (v := ((-1))) hF.1 hF.2.1 d_S_complete_38 (by decide) ?_
      refine z_iret hF hr hlocks hZ rfl ⟨rfl, Or.inr ⟨rfl, fun v hv qv => ?_⟩⟩ d_S_complete_39
      obtain ⟨k, hk⟩ := List.getElem?_of_mem hv
      exact hp k v (by have := wd_lt_of hk; omega) hk qv
    | succ n ih =>
      intro i H locs ls hin hp hl hZ
      obtain ⟨u, hi⟩ := wd_some (show i < C.length by omega)
      refine lv_iload_n hF.1 hF.2.1 d_S_complete_2 rfl (lv_at hl 0 rfl) ?_
      refine lv_aload_n hF.1 hF.2.1 d_S_complete_3 rfl (lv_at hl 1 rfl) ?_
      refine gf_S_21 hF hZ (0) (by omega) s0 rfl d_S_complete_4 ?_
      refine gf_S_78 hF hZ (3) (by omega) d1 rfl d_S_complete_7 ?_
      refine lv_icmp_ge (tgt := 38) hF.1 hF.2.1 d_S_complete_10 (by decide) (fun h => absurd h (nI_ge (show i < C.length by omega) (by omega))) (fun _ => ?_)
      refine lv_aload_n hF.1 hF.2.1 d_S_complete_13 rfl (lv_at hl 1 rfl) ?_
      refine lv_iload_n hF.1 hF.2.1 d_S_complete_14 rfl (lv_at hl 0 rfl) ?_
      refine z_calli hZ (z_run cw_S_99 hF hZ (0) (c_S_isCompletion l hN h hi) (by decide) (by omega) s0 rfl rfl hl.1 rfl (Nat.le_of_ble_eq_true rfl) d_S_complete_15) (fun v enq H locs hp hZ => ?_)
      obtain ⟨he, hv⟩ := hp
      subst hv
      have hZ := hZ.to he
      refine lv_if_eq (tgt := 32) hF.1 hF.2.1 d_S_complete_18 (by decide) (fun q => ?_) (fun q => ?_)
      · have q := bI_0.mp q
        refine lv_iinc (k := 0) (v := (nI (i + 1))) hF.1 hF.2.1 d_S_complete_32 hl rfl (iinc_p (i)) (by decide) rfl (fun ls hl => ?_)
        have hl : lv_has ls 3 [(2, .int (nI (i + 1))), (0, .ref (ad (0))), (1, .int (i0))] := hl
        refine lv_goto (tgt := 2) hF.1 hF.2.1 d_S_complete_35 (by decide) ?_
        refine ih (i + 1) H locs ls (by omega) (fun k v hk hv qv => ?_) hl hZ
        by_cases y : k = i
        · subst y; cases hi.symm.trans hv; rw [q] at qv; cases qv
        · exact hp k v (by omega) hv qv
      · have q := bI_1 q
        refine lv_aload_n hF.1 hF.2.1 d_S_complete_21 rfl (lv_at hl 1 rfl) ?_
        refine lv_iload_n hF.1 hF.2.1 d_S_complete_22 rfl (lv_at hl 0 rfl) ?_
        refine z_calli hZ (z_run cw_S_102 hF hZ (0) (c_S_placeAmongCompletions l hN h hso hi) (by decide) (by omega) s0 rfl rfl hl.1 rfl (Nat.le_of_ble_eq_true rfl) d_S_complete_23) (fun v enq H locs hp hZ => ?_)
        obtain ⟨he, hv⟩ := hp
        subst hv
        have hZ := hZ.to he
        refine lv_iload_n hF.1 hF.2.1 d_S_complete_26 rfl (lv_at hl 2 rfl) ?_
        refine lv_icmp_ne (tgt := 32) hF.1 hF.2.1 d_S_complete_27 (by decide) (fun y2 => ?_) (fun y2 => ?_)
        · refine lv_iinc (k := 0) (v := (nI (i + 1))) hF.1 hF.2.1 d_S_complete_32 hl rfl (iinc_p (i)) (by decide) rfl (fun ls hl => ?_)
          have hl : lv_has ls 3 [(2, .int (nI (i + 1))), (0, .ref (ad (0))), (1, .int (i0))] := hl
          refine lv_goto (tgt := 2) hF.1 hF.2.1 d_S_complete_35 (by decide) ?_
          refine ih (i + 1) H locs ls (by omega) (fun k v hk hv qv => ?_) hl hZ
          by_cases y : k = i
          · subst y; cases hi.symm.trans hv; exact fun z => y2 z.symm
          · exact hp k v (by omega) hv qv
        · refine lv_iload_n hF.1 hF.2.1 d_S_complete_30 rfl (lv_at hl 0 rfl) ?_
          exact z_iret hF hr hlocks hZ rfl ⟨rfl, Or.inl ⟨i, u, hi, q, y2.symm, rfl⟩⟩ d_S_complete_31
  refine lv_iconst (v := (nI (0))) hF.1 hF.2.1 d_S_complete_0 (by decide) ?_
  refine lv_istore_n hF.1 hF.2.1 d_S_complete_1 rfl hl (by decide) rfl (fun ls hl => ?_)
  have hl : lv_has ls 3 [(2, .int (nI (0))), (0, .ref (ad (0))), (1, .int (i0))] := hl
  exact loop C.length 0 _ _ ls (by omega) (fun k v hk => absurd hk (Nat.not_lt_zero _)) hl hZ
end
section
/-! the reference's picture -/
theorem pM.k109 {G : zG} {ad : Nat → Nat} {en en1 : Nat → va_E} {T : List Nat} {mw : List wd_W} (h : pM G ad en T mw) {f : Nat → Int32} (h9 : en1 109 = .inl (zI G, 99, .inl f)) (hfr : ∀ r, r ≠ 109 → en1 r = en r) : pM G ad en1 T mw := by
  obtain ⟨p1, p2, p26, p3, ⟨ft, p4, p5⟩, ⟨fl, fs, fc, p6, p7, p8, p9⟩, -, fj, p11⟩ := h
  exact ⟨by rw [hfr _ (by omega)]; exact p1, p2, p26, p3, ⟨ft, by rw [hfr _ (by omega)]; exact p4, p5⟩, ⟨fl, fs, fc, by rw [hfr _ (by omega)]; exact p6, by rw [hfr _ (by omega)]; exact p7, by rw [hfr _ (by omega)]; exact p8, p9⟩, ⟨f, h9⟩, fj, by rw [hfr _ (by omega)]; exact p11⟩
theorem pM.k110 {G : zG} {ad : Nat → Nat} {en en1 : Nat → va_E} {T : List Nat} {mw : List wd_W} (h : pM G ad en T mw) {f : Nat → Int64} (h9 : en1 110 = .inl (zJ G, 252, .inr (.inl f))) (hfr : ∀ r, r ≠ 110 → en1 r = en r) : pM G ad en1 T mw := by
  obtain ⟨p1, p2, p26, p3, ⟨ft, p4, p5⟩, ⟨fl, fs, fc, p6, p7, p8, p9⟩, ⟨fr, p10⟩, -⟩ := h
  exact ⟨by rw [hfr _ (by omega)]; exact p1, p2, p26, p3, ⟨ft, by rw [hfr _ (by omega)]; exact p4, p5⟩, ⟨fl, fs, fc, by rw [hfr _ (by omega)]; exact p6, by rw [hfr _ (by omega)]; exact p7, by rw [hfr _ (by omega)]; exact p8, p9⟩, ⟨fr, by rw [hfr _ (by omega)]; exact p10⟩, f, h9⟩
theorem pM.low {G : zG} {ad : Nat → Nat} {en en1 : Nat → va_E} {T : List Nat} {mw : List wd_W} (h : pM G ad en T mw) (hfr : ∀ r, 104 ≤ r → en1 r = en r) : pM G ad en1 T mw := by
  obtain ⟨p1, p2, p26, p3, ⟨ft, p4, p5⟩, ⟨fl, fs, fc, p6, p7, p8, p9⟩, ⟨fr, p10⟩, fj, p11⟩ := h
  exact ⟨by rw [hfr _ (by omega)]; exact p1, p2, p26, p3, ⟨ft, by rw [hfr _ (by omega)]; exact p4, p5⟩, ⟨fl, fs, fc, by rw [hfr _ (by omega)]; exact p6, by rw [hfr _ (by omega)]; exact p7, by rw [hfr _ (by omega)]; exact p8, p9⟩, ⟨fr, by rw [hfr _ (by omega)]; exact p10⟩, fj, by rw [hfr _ (by omega)]; exact p11⟩
theorem pS.high {G : zG} {ad : Nat → Nat} {en en1 : Nat → va_E} {T : List Nat} {sg : Nat → Nat} {C : List wd_W} (h : pS G ad en T sg C) (hfr : ∀ r, r < 104 → en1 r = en r) : pS G ad en1 T sg C := by
  obtain ⟨s0, sL, sD, ⟨ME, sE⟩, ⟨MR, sR⟩, fd, sF⟩ := h
  exact ⟨by rw [hfr 0 (by omega)]; exact s0, sL.keep (hfr 1 (by omega)) (hfr 2 (by omega)), sD.keep (fun r h1 h2 => hfr r (by omega)), ⟨ME, sE.keep (fun r h1 h2 => hfr r (by omega))⟩, ⟨MR, sR.keep (fun r h1 h2 => hfr r (by omega))⟩, fd, by rw [hfr 103 (by omega)]; exact sF⟩
theorem wd_rm_at {l : List wd_W} {w k : Nat} {v : wd_W} (hk : (wd_rm l w)[k]? = some v) : k < l.length - 1 ∧ ((k = w ∧ l[l.length - 1]? = some v) ∨ (k ≠ w ∧ l[k]? = some v)) := by
  have hl := wd_lt_of hk
  rw [wd_rm_len] at hl
  refine ⟨hl, ?_⟩
  unfold wd_rm at hk
  rw [List.getElem?_take, if_pos hl] at hk
  by_cases e : k = w
  · left
    subst e
    rw [List.getElem?_set_self (by omega)] at hk
    refine ⟨rfl, ?_⟩
    rw [← hk, List.getD_eq_getElem?_getD, List.getElem?_eq_getElem (by omega)]
    rfl
  · right
    rw [List.getElem?_set_ne (Ne.symm e)] at hk
    exact ⟨e, hk⟩
/-- ranks, out of the words in any order -/
theorem wd_rank2 {C mw : List wd_W} (hp : C.Perm mw) (hso : wd_so C) {w : Nat} {u : wd_W} (hw : mw[w]? = some u) : ∃ j, C[j]? = some u ∧ mw.countP (fun v => wd_lt v.1 u.1) = j := by
  obtain ⟨j, hj⟩ := wd_mem hp hw
  exact ⟨j, hj, by rw [← hp.countP_eq]; exact wd_rank hso hj⟩
end
section
set_option maxHeartbeats 4000000 in
set_option maxRecDepth 100000 in
theorem c_M_key (l : Launch) {G : zG} {ad : Nat → Nat} {en : Nat → va_E} {N : Nat} {T : List Nat} {mw : List wd_W} (hN : 111 ≤ N) (h : pM G ad en T mw) {x : Nat} (hx : x < 26) (hlen : T.length < 10) : zMi l y_M_key b_M_key 2 .boolean 1 G ad en N [.ref (ad (104)), .int (nI (x))] (fun v en1 => v = 1 ∧ pM G ad en1 (T ++ [x]) mw ∧ ∀ r, r < 104 → en1 r = en r) := by
  have hh := h
  obtain ⟨p1, p2, p26, p3, ⟨ft, p4, p5⟩, ⟨fl, fs, fc, p6, p7, p8, p9⟩, ⟨fr, p10⟩, fj, p11⟩ := hh
  refine z_met (by decide) (Nat.le_of_ble_eq_true rfl) ?_
  intro p e s m below meth c ls hF hr hlocks hnam hZ hl
  have hF : CallFix p m c b_M_key 2 s ([.ref (ad (104)), .int (nI (x))] : List Value).toArray zz R_M := hF
  have hl : lv_has ls 2 [(0, .ref (ad (104))), (1, .int (nI (x)))] := hl
  refine lv_iload_n hF.1 hF.2.1 d_M_key_0 rfl (lv_at hl 1 rfl) ?_
  refine lv_if_lt (tgt := 19) hF.1 hF.2.1 d_M_key_1 (by decide) (fun h => absurd h (nI_pos (by omega))) (fun _ => ?_)
  refine lv_iload_n hF.1 hF.2.1 d_M_key_4 rfl (lv_at hl 1 rfl) ?_
  refine lv_bipush (v := (nI (25))) hF.1 hF.2.1 d_M_key_5 (by decide) ?_
  refine lv_icmp_gt (tgt := 19) hF.1 hF.2.1 d_M_key_7 (by decide) (fun h => absurd h (nI_nlt (show x ≤ 25 by omega) (by omega))) (fun _ => ?_)
  refine lv_aload_n hF.1 hF.2.1 d_M_key_10 rfl (lv_at hl 0 rfl) ?_
  refine gf_M_29 hF hZ (104) (by omega) p1 rfl d_M_key_11 ?_
  refine lv_bipush (v := (nI (10))) hF.1 hF.2.1 d_M_key_14 (by decide) ?_
  refine lv_icmp_ne (tgt := 21) hF.1 hF.2.1 d_M_key_16 (by decide) (fun _ => ?_) (fun h => absurd h (fun z => by have := (nI_eq (by omega) (by omega)).mp z; omega))
  refine lv_aload_n hF.1 hF.2.1 d_M_key_21 rfl (lv_at hl 0 rfl) ?_
  refine gf_M_7 hF hZ (104) (by omega) p1 rfl d_M_key_22 ?_
  refine lv_aload_n hF.1 hF.2.1 d_M_key_25 rfl (lv_at hl 0 rfl) ?_
  refine gf_M_29 hF hZ (104) (by omega) p1 rfl d_M_key_26 ?_
  refine lv_iload_n hF.1 hF.2.1 d_M_key_29 rfl (lv_at hl 1 rfl) ?_
  refine z_iast hF hZ (105) (by omega) p4 (T.length) (by omega) (by omega) d_M_key_30 (fun H locs hZ => ?_)
  obtain ⟨ze1, hn2⟩ : ∃ z, z = va_up en (105) (.inl (zI G, 10, .inl (upd (ft) (T.length) (nI (x))))) := ⟨_, rfl⟩
  have hZ : zH G ad ze1 N s H locs := hZ.to hn2.symm
  have ff3 : ze1 (104) = .inr (kM, [.ref (ad (105)), .int (nI (T.length)), .ref (ad (106)), .ref (ad (107)), .ref (ad (108)), .int (nI (mw.length)), .ref (ad (109)), .ref (ad (110))]) := by rw [hn2, va_up_ne _ _ (by omega)]; exact p1
  have ff4 : ze1 (106) = .inl (zI G, 192, .inl (fl)) := by rw [hn2, va_up_ne _ _ (by omega)]; exact p6
  have ff5 : ze1 (107) = .inl (zI G, 24, .inl (fs)) := by rw [hn2, va_up_ne _ _ (by omega)]; exact p7
  have ff6 : ze1 (108) = .inl (zI G, 24, .inl (fc)) := by rw [hn2, va_up_ne _ _ (by omega)]; exact p8
  have ff7 : ze1 (109) = .inl (zI G, 99, .inl (fr)) := by rw [hn2, va_up_ne _ _ (by omega)]; exact p10
  have ff8 : ze1 (110) = .inl (zJ G, 252, .inr (.inl (fj))) := by rw [hn2, va_up_ne _ _ (by omega)]; exact p11
  have ff9 : ze1 (105) = .inl (zI G, 10, .inl (upd (ft) (T.length) (nI (x)))) := by rw [hn2]; exact va_up_self _ _ _
  refine lv_aload_n hF.1 hF.2.1 d_M_key_31 rfl (lv_at hl 0 rfl) ?_
  refine lv_dup hF.1 hF.2.1 d_M_key_32 rfl ?_
  refine gf_M_29 hF hZ (104) (by omega) ff3 rfl d_M_key_33 ?_
  refine lv_iconst (v := (nI (1))) hF.1 hF.2.1 d_M_key_36 (by decide) ?_
  refine lv_iadd hF.1 hF.2.1 d_M_key_37 ?_
  refine z_top (nI_add (T.length) (1)) ?_
  refine pf_M_29 hF hZ (104) (by omega) ff3 (Nat.le_of_ble_eq_true rfl) d_M_key_38 (fun H locs hZ => ?_)
  obtain ⟨ze10, hn11⟩ : ∃ z, z = va_up ze1 (104) (.inr (kM, [.ref (ad (105)), .int (nI (T.length + 1)), .ref (ad (106)), .ref (ad (107)), .ref (ad (108)), .int (nI (mw.length)), .ref (ad (109)), .ref (ad (110))])) := ⟨_, rfl⟩
  have hZ : zH G ad ze10 N s H locs := hZ.to hn11.symm
  have ff12 : ze10 (106) = .inl (zI G, 192, .inl (fl)) := by rw [hn11, va_up_ne _ _ (by omega)]; exact ff4
  have ff13 : ze10 (107) = .inl (zI G, 24, .inl (fs)) := by rw [hn11, va_up_ne _ _ (by omega)]; exact ff5
  have ff14 : ze10 (108) = .inl (zI G, 24, .inl (fc)) := by rw [hn11, va_up_ne _ _ (by omega)]; exact ff6
  have ff15 : ze10 (109) = .inl (zI G, 99, .inl (fr)) := by rw [hn11, va_up_ne _ _ (by omega)]; exact ff7
  have ff16 : ze10 (110) = .inl (zJ G, 252, .inr (.inl (fj))) := by rw [hn11, va_up_ne _ _ (by omega)]; exact ff8
  have ff17 : ze10 (105) = .inl (zI G, 10, .inl (upd (ft) (T.length) (nI (x)))) := by rw [hn11, va_up_ne _ _ (by omega)]; exact ff9
  have ff18 : ze10 (104) = .inr (kM, [.ref (ad (105)), .int (nI (T.length + 1)), .ref (ad (106)), .ref (ad (107)), .ref (ad (108)), .int (nI (mw.length)), .ref (ad (109)), .ref (ad (110))]) := by rw [hn11]; exact va_up_self _ _ _
  refine lv_iconst (v := (nI (1))) hF.1 hF.2.1 d_M_key_41 (by decide) ?_
  refine z_iret hF hr hlocks hZ (by decide) ⟨by decide, ⟨by rw [List.length_append]; exact ff18, by rw [List.length_append]; exact hlen, w26_app p26 hx, p3, ⟨_, ff17, fun i hi => ?_⟩, ⟨fl, fs, fc, ff12, ff13, ff14, p9⟩, ⟨fr, ff15⟩, fj, ff16⟩, fun r hr => by subst ze10; rw [va_up_ne _ _ (by omega)]; subst ze1; rw [va_up_ne _ _ (by omega)]⟩ d_M_key_42
  by_cases q : i = T.length
  · subst q
    rw [pk_us, getD_app_e]
  · rw [List.length_append, List.length_singleton] at hi
    rw [pk_un q, getD_app_l (by omega)]
    exact p5 i (by omega)
set_option maxHeartbeats 4000000 in
set_option maxRecDepth 100000 in
theorem c_M_keyNo (l : Launch) {G : zG} {ad : Nat → Nat} {en : Nat → va_E} {N : Nat} {T : List Nat} {mw : List wd_W} (hN : 111 ≤ N) (h : pM G ad en T mw) {x : Int32} (hno : x < 0 ∨ nI 26 ≤ x ∨ 10 ≤ T.length) : zMi l y_M_key b_M_key 2 .boolean 1 G ad en N [.ref (ad (104)), .int (x)] (fun v en1 => v = 0 ∧ en1 = en) := by
  have hh := h
  obtain ⟨p1, p2, p26, p3, ⟨ft, p4, p5⟩, ⟨fl, fs, fc, p6, p7, p8, p9⟩, ⟨fr, p10⟩, fj, p11⟩ := hh
  refine z_met (by decide) (Nat.le_of_ble_eq_true rfl) ?_
  intro p e s m below meth c ls hF hr hlocks hnam hZ hl
  have hF : CallFix p m c b_M_key 2 s ([.ref (ad (104)), .int (x)] : List Value).toArray zz R_M := hF
  have hl : lv_has ls 2 [(0, .ref (ad (104))), (1, .int (x))] := hl
  refine lv_iload_n hF.1 hF.2.1 d_M_key_0 rfl (lv_at hl 1 rfl) ?_
  refine lv_if_lt (tgt := 19) hF.1 hF.2.1 d_M_key_1 (by decide) (fun q1 => ?_) (fun q1 => ?_)
  · refine lv_iconst (v := (nI (0))) hF.1 hF.2.1 d_M_key_19 (by decide) ?_
    exact z_iret hF hr hlocks hZ (by decide) ⟨by decide, rfl⟩ d_M_key_20
  · refine lv_iload_n hF.1 hF.2.1 d_M_key_4 rfl (lv_at hl 1 rfl) ?_
    refine lv_bipush (v := (nI (25))) hF.1 hF.2.1 d_M_key_5 (by decide) ?_
    refine lv_icmp_gt (tgt := 19) hF.1 hF.2.1 d_M_key_7 (by decide) (fun q2 => ?_) (fun q2 => ?_)
    · refine lv_iconst (v := (nI (0))) hF.1 hF.2.1 d_M_key_19 (by decide) ?_
      exact z_iret hF hr hlocks hZ (by decide) ⟨by decide, rfl⟩ d_M_key_20
    · refine lv_aload_n hF.1 hF.2.1 d_M_key_10 rfl (lv_at hl 0 rfl) ?_
      refine gf_M_29 hF hZ (104) (by omega) p1 rfl d_M_key_11 ?_
      refine lv_bipush (v := (nI (10))) hF.1 hF.2.1 d_M_key_14 (by decide) ?_
      refine lv_icmp_ne (tgt := 21) hF.1 hF.2.1 d_M_key_16 (by decide) (fun h => absurd (show nI T.length = nI 10 by
          rcases hno with z | z | z
          · exact absurd z q1
          · exfalso
            rw [Int32.lt_iff_toInt_lt] at q2
            rw [Int32.le_iff_toInt_le] at z
            have a1 : (nI 25).toInt = 25 := by decide
            have a2 : (nI 26).toInt = 26 := by decide
            omega
          · rw [show T.length = 10 by omega]) h) (fun _ => ?_)
      refine lv_iconst (v := (nI (0))) hF.1 hF.2.1 d_M_key_19 (by decide) ?_
      exact z_iret hF hr hlocks hZ (by decide) ⟨by decide, rfl⟩ d_M_key_20
set_option maxHeartbeats 4000000 in
set_option maxRecDepth 100000 in
theorem c_M_back (l : Launch) {G : zG} {ad : Nat → Nat} {en : Nat → va_E} {N : Nat} {T : List Nat} {mw : List wd_W} (hN : 111 ≤ N) (h : pM G ad en T mw) (hlen : 0 < T.length) : zMi l y_M_back b_M_back 1 .boolean 1 G ad en N [.ref (ad (104))] (fun v en1 => v = 1 ∧ pM G ad en1 (T.take (T.length - 1)) mw ∧ ∀ r, r < 104 → en1 r = en r) := by
  have hh := h
  obtain ⟨p1, p2, p26, p3, ⟨ft, p4, p5⟩, ⟨fl, fs, fc, p6, p7, p8, p9⟩, ⟨fr, p10⟩, fj, p11⟩ := hh
  have hlt : (T.take (T.length - 1)).length = T.length - 1 := by rw [List.length_take]; omega
  refine z_met (by decide) (Nat.le_of_ble_eq_true rfl) ?_
  intro p e s m below meth c ls hF hr hlocks hnam hZ hl
  have hF : CallFix p m c b_M_back 1 s ([.ref (ad (104))] : List Value).toArray zz R_M := hF
  have hl : lv_has ls 1 [(0, .ref (ad (104)))] := hl
  refine lv_aload_n hF.1 hF.2.1 d_M_back_0 rfl (lv_at hl 0 rfl) ?_
  refine gf_M_29 hF hZ (104) (by omega) p1 rfl d_M_back_1 ?_
  refine lv_if_ne (tgt := 9) hF.1 hF.2.1 d_M_back_4 (by decide) (fun _ => ?_) (fun h => absurd h (nI_ne0 hlen (by omega)))
  refine lv_aload_n hF.1 hF.2.1 d_M_back_9 rfl (lv_at hl 0 rfl) ?_
  refine lv_dup hF.1 hF.2.1 d_M_back_10 rfl ?_
  refine gf_M_29 hF hZ (104) (by omega) p1 rfl d_M_back_11 ?_
  refine lv_iconst (v := (nI (1))) hF.1 hF.2.1 d_M_back_14 (by decide) ?_
  refine lv_isub hF.1 hF.2.1 d_M_back_15 ?_
  refine z_top (pk_sub (show 1 ≤ T.length by omega)) ?_
  refine pf_M_29 hF hZ (104) (by omega) p1 (Nat.le_of_ble_eq_true rfl) d_M_back_16 (fun H locs hZ => ?_)
  obtain ⟨ze1, hn2⟩ : ∃ z, z = va_up en (104) (.inr (kM, [.ref (ad (105)), .int (nI (T.length - (1))), .ref (ad (106)), .ref (ad (107)), .ref (ad (108)), .int (nI (mw.length)), .ref (ad (109)), .ref (ad (110))])) := ⟨_, rfl⟩
  have hZ : zH G ad ze1 N s H locs := hZ.to hn2.symm
  have ff3 : ze1 (105) = .inl (zI G, 10, .inl (ft)) := by rw [hn2, va_up_ne _ _ (by omega)]; exact p4
  have ff4 : ze1 (106) = .inl (zI G, 192, .inl (fl)) := by rw [hn2, va_up_ne _ _ (by omega)]; exact p6
  have ff5 : ze1 (107) = .inl (zI G, 24, .inl (fs)) := by rw [hn2, va_up_ne _ _ (by omega)]; exact p7
  have ff6 : ze1 (108) = .inl (zI G, 24, .inl (fc)) := by rw [hn2, va_up_ne _ _ (by omega)]; exact p8
  have ff7 : ze1 (109) = .inl (zI G, 99, .inl (fr)) := by rw [hn2, va_up_ne _ _ (by omega)]; exact p10
  have ff8 : ze1 (110) = .inl (zJ G, 252, .inr (.inl (fj))) := by rw [hn2, va_up_ne _ _ (by omega)]; exact p11
  have ff9 : ze1 (104) = .inr (kM, [.ref (ad (105)), .int (nI (T.length - (1))), .ref (ad (106)), .ref (ad (107)), .ref (ad (108)), .int (nI (mw.length)), .ref (ad (109)), .ref (ad (110))]) := by rw [hn2]; exact va_up_self _ _ _
  refine lv_iconst (v := (nI (1))) hF.1 hF.2.1 d_M_back_19 (by decide) ?_
  refine z_iret hF hr hlocks hZ (by decide) ⟨by decide, ⟨by rw [hlt]; exact ff9, by rw [hlt]; omega, w26_take _ p26, p3, ⟨ft, ff3, fun i hi => ?_⟩, ⟨fl, fs, fc, ff4, ff5, ff6, p9⟩, ⟨fr, ff7⟩, fj, ff8⟩, fun r hr => by subst ze1; rw [va_up_ne _ _ (by omega)]⟩ d_M_back_20
  rw [hlt] at hi
  rw [getD_take (by omega)]
  exact p5 i (by omega)
set_option maxHeartbeats 4000000 in
set_option maxRecDepth 100000 in
theorem c_M_backNo (l : Launch) {G : zG} {ad : Nat → Nat} {en : Nat → va_E} {N : Nat} {T : List Nat} {mw : List wd_W} (hN : 111 ≤ N) (h : pM G ad en T mw) (hlen : T.length = 0) : zMi l y_M_back b_M_back 1 .boolean 1 G ad en N [.ref (ad (104))] (fun v en1 => v = 0 ∧ en1 = en) := by
  have hh := h
  obtain ⟨p1, p2, p26, p3, ⟨ft, p4, p5⟩, ⟨fl, fs, fc, p6, p7, p8, p9⟩, ⟨fr, p10⟩, fj, p11⟩ := hh
  refine z_met (by decide) (Nat.le_of_ble_eq_true rfl) ?_
  intro p e s m below meth c ls hF hr hlocks hnam hZ hl
  have hF : CallFix p m c b_M_back 1 s ([.ref (ad (104))] : List Value).toArray zz R_M := hF
  have hl : lv_has ls 1 [(0, .ref (ad (104)))] := hl
  refine lv_aload_n hF.1 hF.2.1 d_M_back_0 rfl (lv_at hl 0 rfl) ?_
  refine gf_M_29 hF hZ (104) (by omega) p1 rfl d_M_back_1 ?_
  refine lv_if_ne (tgt := 9) hF.1 hF.2.1 d_M_back_4 (by decide) (fun h => absurd (show nI T.length = 0 by rw [hlen]; rfl) h) (fun _ => ?_)
  refine lv_iconst (v := (nI (0))) hF.1 hF.2.1 d_M_back_7 (by decide) ?_
  exact z_iret hF hr hlocks hZ (by decide) ⟨by decide, rfl⟩ d_M_back_8
set_option maxHeartbeats 4000000 in
set_option maxRecDepth 100000 in
theorem c_M_wipe (l : Launch) {G : zG} {ad : Nat → Nat} {en : Nat → va_E} {N : Nat} {T : List Nat} {mw : List wd_W} (hN : 111 ≤ N) (h : pM G ad en T mw) : zMv l y_M_wipe b_M_wipe 1 1 G ad en N [.ref (ad (104))] (fun en1 => pM G ad en1 [] mw ∧ ∀ r, r < 104 → en1 r = en r) := by
  have hh := h
  obtain ⟨p1, p2, p26, p3, ⟨ft, p4, p5⟩, ⟨fl, fs, fc, p6, p7, p8, p9⟩, ⟨fr, p10⟩, fj, p11⟩ := hh
  refine z_met (by decide) (Nat.le_of_ble_eq_true rfl) ?_
  intro p e s m below meth c ls hF hr hlocks hnam hZ hl
  have hF : CallFix p m c b_M_wipe 1 s ([.ref (ad (104))] : List Value).toArray zz R_M := hF
  have hl : lv_has ls 1 [(0, .ref (ad (104)))] := hl
  refine lv_aload_n hF.1 hF.2.1 d_M_wipe_0 rfl (lv_at hl 0 rfl) ?_
  refine lv_iconst (v := (nI (0))) hF.1 hF.2.1 d_M_wipe_1 (by decide) ?_
  refine pf_M_29 hF hZ (104) (by omega) p1 (Nat.le_of_ble_eq_true rfl) d_M_wipe_2 (fun H locs hZ => ?_)
  obtain ⟨ze1, hn2⟩ : ∃ z, z = va_up en (104) (.inr (kM, [.ref (ad (105)), .int (nI (0)), .ref (ad (106)), .ref (ad (107)), .ref (ad (108)), .int (nI (mw.length)), .ref (ad (109)), .ref (ad (110))])) := ⟨_, rfl⟩
  have hZ : zH G ad ze1 N s H locs := hZ.to hn2.symm
  have ff3 : ze1 (105) = .inl (zI G, 10, .inl (ft)) := by rw [hn2, va_up_ne _ _ (by omega)]; exact p4
  have ff4 : ze1 (106) = .inl (zI G, 192, .inl (fl)) := by rw [hn2, va_up_ne _ _ (by omega)]; exact p6
  have ff5 : ze1 (107) = .inl (zI G, 24, .inl (fs)) := by rw [hn2, va_up_ne _ _ (by omega)]; exact p7
  have ff6 : ze1 (108) = .inl (zI G, 24, .inl (fc)) := by rw [hn2, va_up_ne _ _ (by omega)]; exact p8
  have ff7 : ze1 (109) = .inl (zI G, 99, .inl (fr)) := by rw [hn2, va_up_ne _ _ (by omega)]; exact p10
  have ff8 : ze1 (110) = .inl (zJ G, 252, .inr (.inl (fj))) := by rw [hn2, va_up_ne _ _ (by omega)]; exact p11
  have ff9 : ze1 (104) = .inr (kM, [.ref (ad (105)), .int (nI (0)), .ref (ad (106)), .ref (ad (107)), .ref (ad (108)), .int (nI (mw.length)), .ref (ad (109)), .ref (ad (110))]) := by rw [hn2]; exact va_up_self _ _ _
  exact z_vret hF hr hlocks hZ ⟨⟨ff9, Nat.zero_le _, w26_nil, p3, ⟨ft, ff3, fun i hi => absurd hi (Nat.not_lt_zero _)⟩, ⟨fl, fs, fc, ff4, ff5, ff6, p9⟩, ⟨fr, ff7⟩, fj, ff8⟩, fun r hr => by subst ze1; rw [va_up_ne _ _ (by omega)]⟩ d_M_wipe_5
set_option maxHeartbeats 4000000 in
set_option maxRecDepth 100000 in
theorem c_M_length (l : Launch) {G : zG} {ad : Nat → Nat} {en : Nat → va_E} {N : Nat} {T : List Nat} {mw : List wd_W} (hN : 111 ≤ N) (h : pM G ad en T mw) : zMi l y_M_length b_M_length 1 .int 1 G ad en N [.ref (ad (104))] (fun v en1 => en1 = en ∧ v = nI T.length) := by
  have hh := h
  obtain ⟨p1, p2, p26, p3, ⟨ft, p4, p5⟩, ⟨fl, fs, fc, p6, p7, p8, p9⟩, ⟨fr, p10⟩, fj, p11⟩ := hh
  refine z_met (by decide) (Nat.le_of_ble_eq_true rfl) ?_
  intro p e s m below meth c ls hF hr hlocks hnam hZ hl
  have hF : CallFix p m c b_M_length 1 s ([.ref (ad (104))] : List Value).toArray zz R_M := hF
  have hl : lv_has ls 1 [(0, .ref (ad (104)))] := hl
  refine lv_aload_n hF.1 hF.2.1 d_M_length_0 rfl (lv_at hl 0 rfl) ?_
  refine gf_M_29 hF hZ (104) (by omega) p1 rfl d_M_length_1 ?_
  exact z_iret hF hr hlocks hZ rfl ⟨rfl, rfl⟩ d_M_length_4
set_option maxHeartbeats 4000000 in
set_option maxRecDepth 100000 in
theorem c_M_words (l : Launch) {G : zG} {ad : Nat → Nat} {en : Nat → va_E} {N : Nat} {T : List Nat} {mw : List wd_W} (hN : 111 ≤ N) (h : pM G ad en T mw) : zMi l y_M_words b_M_words 1 .int 1 G ad en N [.ref (ad (104))] (fun v en1 => en1 = en ∧ v = nI mw.length) := by
  have hh := h
  obtain ⟨p1, p2, p26, p3, ⟨ft, p4, p5⟩, ⟨fl, fs, fc, p6, p7, p8, p9⟩, ⟨fr, p10⟩, fj, p11⟩ := hh
  refine z_met (by decide) (Nat.le_of_ble_eq_true rfl) ?_
  intro p e s m below meth c ls hF hr hlocks hnam hZ hl
  have hF : CallFix p m c b_M_words 1 s ([.ref (ad (104))] : List Value).toArray zz R_M := hF
  have hl : lv_has ls 1 [(0, .ref (ad (104)))] := hl
  refine lv_aload_n hF.1 hF.2.1 d_M_words_0 rfl (lv_at hl 0 rfl) ?_
  refine gf_M_37 hF hZ (104) (by omega) p1 rfl d_M_words_1 ?_
  exact z_iret hF hr hlocks hZ rfl ⟨rfl, rfl⟩ d_M_words_4
set_option maxHeartbeats 4000000 in
set_option maxRecDepth 100000 in
theorem c_M_typed (l : Launch) {G : zG} {ad : Nat → Nat} {en : Nat → va_E} {N : Nat} {T : List Nat} {mw : List wd_W} (hN : 111 ≤ N) (h : pM G ad en T mw) {i : Int32} : zMi l y_M_typed b_M_typed 2 .int 1 G ad en N [.ref (ad (104)), .int (i)] (fun v en1 => en1 = en ∧ v = iv (atv T i)) := by
  have hh := h
  obtain ⟨p1, p2, p26, p3, ⟨ft, p4, p5⟩, ⟨fl, fs, fc, p6, p7, p8, p9⟩, ⟨fr, p10⟩, fj, p11⟩ := hh
  refine z_met (by decide) (Nat.le_of_ble_eq_true rfl) ?_
  intro p e s m below meth c ls hF hr hlocks hnam hZ hl
  have hF : CallFix p m c b_M_typed 2 s ([.ref (ad (104)), .int (i)] : List Value).toArray zz R_M := hF
  have hl : lv_has ls 2 [(0, .ref (ad (104))), (1, .int (i))] := hl
  rcases pk_ix i (n := T.length) (by omega) with h3 | h3 | ⟨j, hj, rfl⟩
  · refine lv_iload_n hF.1 hF.2.1 d_M_typed_0 rfl (lv_at hl 1 rfl) ?_
    refine lv_if_lt (tgt := 21) hF.1 hF.2.1 d_M_typed_1 (by decide) (fun _ => ?_) (fun h => absurd h3 h)
    refine lv_iconst (v := ((-1))) hF.1 hF.2.1 d_M_typed_21 (by decide) ?_
    exact z_iret hF hr hlocks hZ rfl ⟨rfl, by rw [atv_neg h3]; exact iv_0.symm⟩ d_M_typed_22
  · have h4 : ¬ i < 0 := fun q => by
      rw [Int32.lt_iff_toInt_lt, Int32.toInt_zero] at q
      rw [Int32.le_iff_toInt_le, nI_toInt (by omega)] at h3
      omega
    refine lv_iload_n hF.1 hF.2.1 d_M_typed_0 rfl (lv_at hl 1 rfl) ?_
    refine lv_if_lt (tgt := 21) hF.1 hF.2.1 d_M_typed_1 (by decide) (fun h => absurd h h4) (fun _ => ?_)
    refine lv_iload_n hF.1 hF.2.1 d_M_typed_4 rfl (lv_at hl 1 rfl) ?_
    refine lv_aload_n hF.1 hF.2.1 d_M_typed_5 rfl (lv_at hl 0 rfl) ?_
    refine gf_M_29 hF hZ (104) (by omega) p1 rfl d_M_typed_6 ?_
    refine lv_icmp_ge (tgt := 21) hF.1 hF.2.1 d_M_typed_9 (by decide) (fun _ => ?_) (fun h => absurd h3 h)
    refine lv_iconst (v := ((-1))) hF.1 hF.2.1 d_M_typed_21 (by decide) ?_
    exact z_iret hF hr hlocks hZ rfl ⟨rfl, by rw [atv_big (by omega) h3 (Nat.le_refl _)]; exact iv_0.symm⟩ d_M_typed_22
  · refine lv_iload_n hF.1 hF.2.1 d_M_typed_0 rfl (lv_at hl 1 rfl) ?_
    refine lv_if_lt (tgt := 21) hF.1 hF.2.1 d_M_typed_1 (by decide) (fun h => absurd h (nI_pos (by omega))) (fun _ => ?_)
    refine lv_iload_n hF.1 hF.2.1 d_M_typed_4 rfl (lv_at hl 1 rfl) ?_
    refine lv_aload_n hF.1 hF.2.1 d_M_typed_5 rfl (lv_at hl 0 rfl) ?_
    refine gf_M_29 hF hZ (104) (by omega) p1 rfl d_M_typed_6 ?_
    refine lv_icmp_ge (tgt := 21) hF.1 hF.2.1 d_M_typed_9 (by decide) (fun h => absurd h (nI_ge hj (by omega))) (fun _ => ?_)
    refine lv_aload_n hF.1 hF.2.1 d_M_typed_12 rfl (lv_at hl 0 rfl) ?_
    refine gf_M_7 hF hZ (104) (by omega) p1 rfl d_M_typed_13 ?_
    refine lv_iload_n hF.1 hF.2.1 d_M_typed_16 rfl (lv_at hl 1 rfl) ?_
    refine z_iald hF hZ (105) (by omega) p4 (j) (by omega) (by omega) d_M_typed_17 ?_
    refine lv_goto (tgt := 22) hF.1 hF.2.1 d_M_typed_18 (by decide) ?_
    exact z_iret hF hr hlocks hZ rfl ⟨rfl, by rw [atv_nI (by omega), wd_cd_in hj, iv_s, p5 j hj]⟩ d_M_typed_22
set_option maxHeartbeats 4000000 in
set_option maxRecDepth 100000 in
theorem c_M_at (l : Launch) {G : zG} {ad : Nat → Nat} {en : Nat → va_E} {N : Nat} {T : List Nat} {mw : List wd_W} (hN : 111 ≤ N) (h : pM G ad en T mw) {w : Nat} {u : wd_W} (hw : mw[w]? = some u) {i : Nat} (hi : i < 8) : zMi l y_M_at b_M_at 3 .int 1 G ad en N [.ref (ad (104)), .int (nI (w)), .int (nI (i))] (fun v en1 => en1 = en ∧ v = iv (wd_cd u.1 i)) := by
  have hh := h
  obtain ⟨p1, p2, p26, p3, ⟨ft, p4, p5⟩, ⟨fl, fs, fc, p6, p7, p8, p9⟩, ⟨fr, p10⟩, fj, p11⟩ := hh
  have hwl := wd_lt_of hw
  obtain ⟨u8, u26, ut, us, uc, ul⟩ := p9 w u hw
  refine z_met (by decide) (Nat.le_of_ble_eq_true rfl) ?_
  intro p e s m below meth c ls hF hr hlocks hnam hZ hl
  have hF : CallFix p m c b_M_at 3 s ([.ref (ad (104)), .int (nI (w)), .int (nI (i))] : List Value).toArray zz R_M := hF
  have hl : lv_has ls 3 [(0, .ref (ad (104))), (1, .int (nI (w))), (2, .int (nI (i)))] := hl
  refine lv_iload_n hF.1 hF.2.1 d_M_at_0 rfl (lv_at hl 2 rfl) ?_
  refine lv_aload_n hF.1 hF.2.1 d_M_at_1 rfl (lv_at hl 0 rfl) ?_
  refine gf_M_16 hF hZ (104) (by omega) p1 rfl d_M_at_2 ?_
  refine lv_iload_n hF.1 hF.2.1 d_M_at_5 rfl (lv_at hl 1 rfl) ?_
  refine z_iald hF hZ (107) (by omega) p7 (w) (by omega) (by omega) d_M_at_6 ?_
  refine z_top (y := (nI (u.1.length))) us ?_
  refine lv_icmp_ge (tgt := 24) hF.1 hF.2.1 d_M_at_7 (by decide) (fun q => ?_) (fun q => ?_)
  · have q := (nI_leI (by omega) (by omega)).mp q
    refine lv_iconst (v := ((-1))) hF.1 hF.2.1 d_M_at_24 (by decide) ?_
    exact z_iret hF hr hlocks hZ rfl ⟨rfl, by rw [wd_cd_out q]; exact iv_0.symm⟩ d_M_at_25
  · have q : i < u.1.length := Nat.lt_of_not_le (fun z => q (nI_le z (by omega)))
    refine lv_aload_n hF.1 hF.2.1 d_M_at_10 rfl (lv_at hl 0 rfl) ?_
    refine gf_M_13 hF hZ (104) (by omega) p1 rfl d_M_at_11 ?_
    refine lv_bipush (v := (nI (8))) hF.1 hF.2.1 d_M_at_14 (by decide) ?_
    refine lv_iload_n hF.1 hF.2.1 d_M_at_16 rfl (lv_at hl 1 rfl) ?_
    refine lv_imul hF.1 hF.2.1 d_M_at_17 ?_
    refine z_top (pk_mul (8) (w)) ?_
    refine lv_iload_n hF.1 hF.2.1 d_M_at_18 rfl (lv_at hl 2 rfl) ?_
    refine lv_iadd hF.1 hF.2.1 d_M_at_19 ?_
    refine z_top (nI_add ((8) * (w)) (i)) ?_
    refine z_iald hF hZ (106) (by omega) p6 ((8) * (w) + i) (by omega) (by omega) d_M_at_20 ?_
    refine lv_goto (tgt := 25) hF.1 hF.2.1 d_M_at_21 (by decide) ?_
    exact z_iret hF hr hlocks hZ rfl ⟨rfl, by rw [wd_cd_in q, iv_s]; exact ul i q⟩ d_M_at_25
set_option maxHeartbeats 4000000 in
set_option maxRecDepth 100000 in
theorem c_M_before (l : Launch) {G : zG} {ad : Nat → Nat} {en : Nat → va_E} {N : Nat} {T : List Nat} {mw : List wd_W} (hN : 111 ≤ N) (h : pM G ad en T mw) {w : Nat} {u : wd_W} (hw : mw[w]? = some u) {x : Nat} {t : wd_W} (hx : mw[x]? = some t) : zMi l y_M_before b_M_before 4 .boolean 2 G ad en N [.ref (ad (104)), .int (nI (w)), .int (nI (x))] (fun v en1 => en1 = en ∧ v = bI (wd_lt u.1 t.1)) := by
  have hh := h
  obtain ⟨p1, p2, p26, p3, ⟨ft, p4, p5⟩, ⟨fl, fs, fc, p6, p7, p8, p9⟩, ⟨fr, p10⟩, fj, p11⟩ := hh
  have hwl := wd_lt_of hw
  obtain ⟨u8, u26, ut, us, uc, ul⟩ := p9 w u hw
  have hxl := wd_lt_of hx
  obtain ⟨t8, t26, tt, ts, tc, tl⟩ := p9 x t hx
  refine z_met (by decide) (Nat.le_of_ble_eq_true rfl) ?_
  intro p e s m below meth c ls hF hr hlocks hnam hZ hl
  have hF : CallFix p m c b_M_before 4 s ([.ref (ad (104)), .int (nI (w)), .int (nI (x))] : List Value).toArray zz R_M := hF
  have hl : lv_has ls 4 [(0, .ref (ad (104))), (1, .int (nI (w))), (2, .int (nI (x)))] := hl
  have loop : ∀ (n i : Nat) (H : Heap) (locs : List Loc) (ls : Array Slot), (i + n = 8) → (wd_lt u.1 t.1 = wd_lt (u.1.drop i) (t.1.drop i)) → lv_has ls 4 [(3, .int (nI (i))), (0, .ref (ad (104))), (1, .int (nI (w))), (2, .int (nI (x)))] → zH G ad en N s H locs → W p l e (zR 2) s m ([.ref (ad (104)), .int (nI (w)), .int (nI (x))] : List Value).toArray below meth c H locs 0 0 (MQ below (zQi G ad N (fun v en1 => en1 = en ∧ v = bI (wd_lt u.1 t.1))) ([.ref (ad (104)), .int (nI (w)), .int (nI (x))] : List Value).toArray s 0 0 (zA G)) (F0 m 2 ls []) := by
    intro n
    induction n with
    | zero =>
      intro i H locs ls hin hp hl hZ
      refine lv_iload_n hF.1 hF.2.1 d_M_before_2 rfl (lv_at hl 0 rfl) ?_
      refine lv_bipush (v := (nI (8))) hF.1 hF.2.1 d_M_before_3 (by decide) ?_
      refine lv_icmp_ge (tgt := 50) hF.1 hF.2.1 d_M_before_5 (by decide) (fun _ => ?_) (fun h => absurd (nI_le (by omega) (by omega)) h)
      refine lv_iconst (v := (nI (0))) hF.1 hF.2.1 d_M_before_50 (by decide) ?_
      exact z_iret hF hr hlocks hZ (by decide) ⟨rfl, by rw [hp, List.drop_eq_nil_of_le (show t.1.length ≤ i by omega), wd_lt_nilR]; rfl⟩ d_M_before_51
    | succ n ih =>
      intro i H locs ls hin hp hl hZ
      rw [wd_lt_s] at hp
      refine lv_iload_n hF.1 hF.2.1 d_M_before_2 rfl (lv_at hl 0 rfl) ?_
      refine lv_bipush (v := (nI (8))) hF.1 hF.2.1 d_M_before_3 (by decide) ?_
      refine lv_icmp_ge (tgt := 50) hF.1 hF.2.1 d_M_before_5 (by decide) (fun h => absurd h (nI_ge (show i < 8 by omega) (by omega))) (fun _ => ?_)
      refine lv_aload_n hF.1 hF.2.1 d_M_before_8 rfl (lv_at hl 1 rfl) ?_
      refine lv_iload_n hF.1 hF.2.1 d_M_before_9 rfl (lv_at hl 2 rfl) ?_
      refine lv_iload_n hF.1 hF.2.1 d_M_before_10 rfl (lv_at hl 0 rfl) ?_
      refine z_calli hZ (z_run cw_M_33 hF hZ (104) (c_M_at l hN h hw (i := i) (by omega)) (by decide) (by omega) p1 rfl rfl hl.1 rfl (Nat.le_of_ble_eq_true rfl) d_M_before_11) (fun v enq H locs hp hZ => ?_)
      obtain ⟨he, hv⟩ := hp
      subst hv
      have hZ := hZ.to he
      refine lv_aload_n hF.1 hF.2.1 d_M_before_14 rfl (lv_at hl 1 rfl) ?_
      refine lv_iload_n hF.1 hF.2.1 d_M_before_15 rfl (lv_at hl 3 rfl) ?_
      refine lv_iload_n hF.1 hF.2.1 d_M_before_16 rfl (lv_at hl 0 rfl) ?_
      refine z_calli hZ (z_run cw_M_33 hF hZ (104) (c_M_at l hN h hx (i := i) (by omega)) (by decide) (by omega) p1 rfl rfl hl.1 rfl (Nat.le_of_ble_eq_true rfl) d_M_before_17) (fun v enq H locs hp hZ => ?_)
      obtain ⟨he, hv⟩ := hp
      subst hv
      have hZ := hZ.to he
      refine lv_icmp_eq (tgt := 44) hF.1 hF.2.1 d_M_before_20 (by decide) (fun q => ?_) (fun q => ?_)
      · have q := (iv_eq (wd_cd_26 u26 i) (wd_cd_26 t26 i)).mp q
        rw [if_pos q] at hp
        refine lv_iinc (k := 0) (v := (nI (i + 1))) hF.1 hF.2.1 d_M_before_44 hl rfl (iinc_p (i)) (by decide) rfl (fun ls hl => ?_)
        have hl : lv_has ls 4 [(3, .int (nI (i + 1))), (0, .ref (ad (104))), (1, .int (nI (w))), (2, .int (nI (x)))] := hl
        refine lv_goto (tgt := 2) hF.1 hF.2.1 d_M_before_47 (by decide) ?_
        exact ih (i + 1) H locs ls (by omega) hp hl hZ
      · have q : ¬ wd_cd u.1 i = wd_cd t.1 i := fun z => q (by rw [z])
        rw [if_neg q] at hp
        refine lv_aload_n hF.1 hF.2.1 d_M_before_23 rfl (lv_at hl 1 rfl) ?_
        refine lv_iload_n hF.1 hF.2.1 d_M_before_24 rfl (lv_at hl 2 rfl) ?_
        refine lv_iload_n hF.1 hF.2.1 d_M_before_25 rfl (lv_at hl 0 rfl) ?_
        refine z_calli hZ (z_run cw_M_33 hF hZ (104) (c_M_at l hN h hw (i := i) (by omega)) (by decide) (by omega) p1 rfl rfl hl.1 rfl (Nat.le_of_ble_eq_true rfl) d_M_before_26) (fun v enq H locs hp hZ => ?_)
        obtain ⟨he, hv⟩ := hp
        subst hv
        have hZ := hZ.to he
        refine lv_aload_n hF.1 hF.2.1 d_M_before_29 rfl (lv_at hl 1 rfl) ?_
        refine lv_iload_n hF.1 hF.2.1 d_M_before_30 rfl (lv_at hl 3 rfl) ?_
        refine lv_iload_n hF.1 hF.2.1 d_M_before_31 rfl (lv_at hl 0 rfl) ?_
        refine z_calli hZ (z_run cw_M_33 hF hZ (104) (c_M_at l hN h hx (i := i) (by omega)) (by decide) (by omega) p1 rfl rfl hl.1 rfl (Nat.le_of_ble_eq_true rfl) d_M_before_32) (fun v enq H locs hp hZ => ?_)
        obtain ⟨he, hv⟩ := hp
        subst hv
        have hZ := hZ.to he
        refine lv_icmp_ge (tgt := 42) hF.1 hF.2.1 d_M_before_35 (by decide) (fun z => ?_) (fun z => ?_)
        · have z : ¬ wd_cd u.1 i < wd_cd t.1 i := fun y => by
            have y := (iv_lt (wd_cd_26 u26 i) (wd_cd_26 t26 i)).mpr y
            rw [Int32.lt_iff_toInt_lt] at y; rw [Int32.le_iff_toInt_le] at z; omega
          refine lv_iconst (v := (nI (0))) hF.1 hF.2.1 d_M_before_42 (by decide) ?_
          exact z_iret hF hr hlocks hZ (by decide) ⟨rfl, by rw [hp, decide_eq_false z]; rfl⟩ d_M_before_43
        · have z : wd_cd u.1 i < wd_cd t.1 i := (iv_lt (wd_cd_26 u26 i) (wd_cd_26 t26 i)).mp (by
            rw [Int32.lt_iff_toInt_lt]; rw [Int32.le_iff_toInt_le] at z; omega)
          refine lv_iconst (v := (nI (1))) hF.1 hF.2.1 d_M_before_38 (by decide) ?_
          refine lv_goto (tgt := 43) hF.1 hF.2.1 d_M_before_39 (by decide) ?_
          exact z_iret hF hr hlocks hZ (by decide) ⟨rfl, by rw [hp, decide_eq_true z]; rfl⟩ d_M_before_43
  refine lv_iconst (v := (nI (0))) hF.1 hF.2.1 d_M_before_0 (by decide) ?_
  refine lv_istore_n hF.1 hF.2.1 d_M_before_1 rfl hl (by decide) rfl (fun ls hl => ?_)
  have hl : lv_has ls 4 [(3, .int (nI (0))), (0, .ref (ad (104))), (1, .int (nI (w))), (2, .int (nI (x)))] := hl
  exact loop 8 0 _ _ ls (by omega) (by rw [List.drop_zero, List.drop_zero]) hl hZ
set_option maxHeartbeats 4000000 in
set_option maxRecDepth 100000 in
theorem c_M_rankOf (l : Launch) {G : zG} {ad : Nat → Nat} {en : Nat → va_E} {N : Nat} {T : List Nat} {mw : List wd_W} (hN : 111 ≤ N) (h : pM G ad en T mw) {w : Nat} {u : wd_W} (hw : mw[w]? = some u) : zMi l y_M_rankOf b_M_rankOf 4 .int 3 G ad en N [.ref (ad (104)), .int (nI (w))] (fun v en1 => en1 = en ∧ v = nI (mw.countP (fun v => wd_lt v.1 u.1))) := by
  have hh := h
  obtain ⟨p1, p2, p26, p3, ⟨ft, p4, p5⟩, ⟨fl, fs, fc, p6, p7, p8, p9⟩, ⟨fr, p10⟩, fj, p11⟩ := hh
  have hwl := wd_lt_of hw
  obtain ⟨u8, u26, ut, us, uc, ul⟩ := p9 w u hw
  refine z_met (by decide) (Nat.le_of_ble_eq_true rfl) ?_
  intro p e s m below meth c ls hF hr hlocks hnam hZ hl
  have hF : CallFix p m c b_M_rankOf 4 s ([.ref (ad (104)), .int (nI (w))] : List Value).toArray zz R_M := hF
  have hl : lv_has ls 4 [(0, .ref (ad (104))), (1, .int (nI (w)))] := hl
  have loop : ∀ (n i c0 : Nat) (H : Heap) (locs : List Loc) (ls : Array Slot), (i + n = mw.length) → (c0 = (mw.take i).countP (fun v => wd_lt v.1 u.1)) → lv_has ls 4 [(3, .int (nI (i))), (2, .int (nI (c0))), (0, .ref (ad (104))), (1, .int (nI (w)))] → zH G ad en N s H locs → W p l e (zR 3) s m ([.ref (ad (104)), .int (nI (w))] : List Value).toArray below meth c H locs 0 0 (MQ below (zQi G ad N (fun v en1 => en1 = en ∧ v = nI (mw.countP (fun v => wd_lt v.1 u.1)))) ([.ref (ad (104)), .int (nI (w))] : List Value).toArray s 0 0 (zA G)) (F0 m 4 ls []) := by
    intro n
    induction n with
    | zero =>
      intro i c0 H locs ls hin hp hl hZ
      refine lv_iload_n hF.1 hF.2.1 d_M_rankOf_4 rfl (lv_at hl 0 rfl) ?_
      refine lv_aload_n hF.1 hF.2.1 d_M_rankOf_5 rfl (lv_at hl 2 rfl) ?_
      refine gf_M_37 hF hZ (104) (by omega) p1 rfl d_M_rankOf_6 ?_
      refine lv_icmp_ge (tgt := 30) hF.1 hF.2.1 d_M_rankOf_9 (by decide) (fun _ => ?_) (fun h => absurd (nI_le (by omega) (by omega)) h)
      refine lv_iload_n hF.1 hF.2.1 d_M_rankOf_30 rfl (lv_at hl 1 rfl) ?_
      exact z_iret hF hr hlocks hZ rfl ⟨rfl, by rw [hp, List.take_of_length_le (by omega)]⟩ d_M_rankOf_31
    | succ n ih =>
      intro i c0 H locs ls hin hp hl hZ
      obtain ⟨x, hi⟩ := wd_some (show i < mw.length by omega)
      have hct := wd_cnt_s (fun v => wd_lt v.1 u.1) hi
      refine lv_iload_n hF.1 hF.2.1 d_M_rankOf_4 rfl (lv_at hl 0 rfl) ?_
      refine lv_aload_n hF.1 hF.2.1 d_M_rankOf_5 rfl (lv_at hl 2 rfl) ?_
      refine gf_M_37 hF hZ (104) (by omega) p1 rfl d_M_rankOf_6 ?_
      refine lv_icmp_ge (tgt := 30) hF.1 hF.2.1 d_M_rankOf_9 (by decide) (fun h => absurd h (nI_ge (show i < mw.length by omega) (by omega))) (fun _ => ?_)
      refine lv_aload_n hF.1 hF.2.1 d_M_rankOf_12 rfl (lv_at hl 2 rfl) ?_
      refine lv_iload_n hF.1 hF.2.1 d_M_rankOf_13 rfl (lv_at hl 0 rfl) ?_
      refine lv_iload_n hF.1 hF.2.1 d_M_rankOf_14 rfl (lv_at hl 3 rfl) ?_
      refine z_calli hZ (z_run cw_M_40 hF hZ (104) (c_M_before l hN h hi hw) (by decide) (by omega) p1 rfl rfl hl.1 rfl (Nat.le_of_ble_eq_true rfl) d_M_rankOf_15) (fun v enq H locs hp hZ => ?_)
      obtain ⟨he, hv⟩ := hp
      subst hv
      have hZ := hZ.to he
      refine lv_if_eq (tgt := 24) hF.1 hF.2.1 d_M_rankOf_18 (by decide) (fun q => ?_) (fun q => ?_)
      · have q := bI_0.mp q
        refine lv_iinc (k := 0) (v := (nI (i + 1))) hF.1 hF.2.1 d_M_rankOf_24 hl rfl (iinc_p (i)) (by decide) rfl (fun ls hl => ?_)
        have hl : lv_has ls 4 [(3, .int (nI (i + 1))), (2, .int (nI (c0))), (0, .ref (ad (104))), (1, .int (nI (w)))] := hl
        refine lv_goto (tgt := 4) hF.1 hF.2.1 d_M_rankOf_27 (by decide) ?_
        exact ih (i + 1) c0 H locs ls (by omega) (by rw [hct, q, ← hp]; rfl) hl hZ
      · have q := bI_1 q
        refine lv_iinc (k := 1) (v := (nI (c0 + 1))) hF.1 hF.2.1 d_M_rankOf_21 hl rfl (iinc_p (c0)) (by decide) rfl (fun ls hl => ?_)
        have hl : lv_has ls 4 [(2, .int (nI (c0 + 1))), (3, .int (nI (i))), (0, .ref (ad (104))), (1, .int (nI (w)))] := hl
        refine lv_iinc (k := 1) (v := (nI (i + 1))) hF.1 hF.2.1 d_M_rankOf_24 hl rfl (iinc_p (i)) (by decide) rfl (fun ls hl => ?_)
        have hl : lv_has ls 4 [(3, .int (nI (i + 1))), (2, .int (nI (c0 + 1))), (0, .ref (ad (104))), (1, .int (nI (w)))] := hl
        refine lv_goto (tgt := 4) hF.1 hF.2.1 d_M_rankOf_27 (by decide) ?_
        exact ih (i + 1) (c0 + 1) H locs ls (by omega) (by rw [hct, q, ← hp]; rfl) hl hZ
  refine lv_iconst (v := (nI (0))) hF.1 hF.2.1 d_M_rankOf_0 (by decide) ?_
  refine lv_istore_n hF.1 hF.2.1 d_M_rankOf_1 rfl hl (by decide) rfl (fun ls hl => ?_)
  have hl : lv_has ls 4 [(2, .int (nI (0))), (0, .ref (ad (104))), (1, .int (nI (w)))] := hl
  refine lv_iconst (v := (nI (0))) hF.1 hF.2.1 d_M_rankOf_2 (by decide) ?_
  refine lv_istore_n hF.1 hF.2.1 d_M_rankOf_3 rfl hl (by decide) rfl (fun ls hl => ?_)
  have hl : lv_has ls 4 [(3, .int (nI (0))), (2, .int (nI (0))), (0, .ref (ad (104))), (1, .int (nI (w)))] := hl
  exact loop mw.length 0 0 _ _ ls (by omega) (by rw [List.take_zero]; rfl) hl hZ
set_option maxHeartbeats 4000000 in
set_option maxRecDepth 100000 in
theorem c_M_place (l : Launch) {G : zG} {ad : Nat → Nat} {en : Nat → va_E} {N : Nat} {T : List Nat} {mw : List wd_W} (hN : 111 ≤ N) (h : pM G ad en T mw) {C : List wd_W} (hpm : C.Perm mw) (hso : wd_so C) {k : Int32} : zMi l y_M_place b_M_place 3 .int 4 G ad en N [.ref (ad (104)), .int (k)] (fun v en1 => en1 = en ∧ ((∃ w j u, mw[w]? = some u ∧ C[j]? = some u ∧ k = nI j ∧ v = nI w) ∨ (v = -1 ∧ (k < 0 ∨ nI C.length ≤ k)))) := by
  have hh := h
  obtain ⟨p1, p2, p26, p3, ⟨ft, p4, p5⟩, ⟨fl, fs, fc, p6, p7, p8, p9⟩, ⟨fr, p10⟩, fj, p11⟩ := hh
  have hlen := hpm.length_eq
  refine z_met (by decide) (Nat.le_of_ble_eq_true rfl) ?_
  intro p e s m below meth c ls hF hr hlocks hnam hZ hl
  have hF : CallFix p m c b_M_place 3 s ([.ref (ad (104)), .int (k)] : List Value).toArray zz R_M := hF
  have hl : lv_has ls 3 [(0, .ref (ad (104))), (1, .int (k))] := hl
  have loop : ∀ (n i : Nat) (H : Heap) (locs : List Loc) (ls : Array Slot), (i + n = mw.length) → (∀ w u, w < i → mw[w]? = some u → ¬ k = nI (mw.countP (fun v => wd_lt v.1 u.1))) → lv_has ls 3 [(2, .int (nI (i))), (0, .ref (ad (104))), (1, .int (k))] → zH G ad en N s H locs → W p l e (zR 4) s m ([.ref (ad (104)), .int (k)] : List Value).toArray below meth c H locs 0 0 (MQ below (zQi G ad N (fun v en1 => en1 = en ∧ ((∃ w j u, mw[w]? = some u ∧ C[j]? = some u ∧ k = nI j ∧ v = nI w) ∨ (v = -1 ∧ (k < 0 ∨ nI C.length ≤ k))))) ([.ref (ad (104)), .int (k)] : List Value).toArray s 0 0 (zA G)) (F0 m 2 ls []) := by
    intro n
    induction n with
    | zero =>
      intro i H locs ls hin hp hl hZ
      refine lv_iload_n hF.1 hF.2.1 d_M_place_2 rfl (lv_at hl 0 rfl) ?_
      refine lv_aload_n hF.1 hF.2.1 d_M_place_3 rfl (lv_at hl 1 rfl) ?_
      refine gf_M_37 hF hZ (104) (by omega) p1 rfl d_M_place_4 ?_
      refine lv_icmp_ge (tgt := 27) hF.1 hF.2.1 d_M_place_7 (by decide) (fun _ => ?_) (fun h => absurd (nI_le (by omega) (by omega)) h)
      refine lv_iconst (v := ((-1))) hF.1 hF.2.1 d_M_place_27 (by decide) ?_
      refine z_iret hF hr hlocks hZ rfl ⟨rfl, Or.inr ⟨rfl, ?_⟩⟩ d_M_place_28
      rcases pk_ix k (n := C.length) (by omega) with q | q | ⟨j, hj, rfl⟩
      · exact Or.inl q
      · exact Or.inr q
      · exfalso
        obtain ⟨u, hu⟩ := wd_some hj
        obtain ⟨w, hw⟩ := wd_mem hpm.symm hu
        refine hp w u (by have := wd_lt_of hw; omega) hw ?_
        rw [← hpm.countP_eq, wd_rank hso hu]
    | succ n ih =>
      intro i H locs ls hin hp hl hZ
      obtain ⟨u, hi⟩ := wd_some (show i < mw.length by omega)
      obtain ⟨j, hj, hrk⟩ := wd_rank2 hpm hso hi
      refine lv_iload_n hF.1 hF.2.1 d_M_place_2 rfl (lv_at hl 0 rfl) ?_
      refine lv_aload_n hF.1 hF.2.1 d_M_place_3 rfl (lv_at hl 1 rfl) ?_
      refine gf_M_37 hF hZ (104) (by omega) p1 rfl d_M_place_4 ?_
      refine lv_icmp_ge (tgt := 27) hF.1 hF.2.1 d_M_place_7 (by decide) (fun h => absurd h (nI_ge (show i < mw.length by omega) (by omega))) (fun _ => ?_)
      refine lv_aload_n hF.1 hF.2.1 d_M_place_10 rfl (lv_at hl 1 rfl) ?_
      refine lv_iload_n hF.1 hF.2.1 d_M_place_11 rfl (lv_at hl 0 rfl) ?_
      refine z_calli hZ (z_run cw_M_44 hF hZ (104) (c_M_rankOf l hN h hi) (by decide) (by omega) p1 rfl rfl hl.1 rfl (Nat.le_of_ble_eq_true rfl) d_M_place_12) (fun v enq H locs hp hZ => ?_)
      obtain ⟨he, hv⟩ := hp
      subst hv
      have hZ := hZ.to he
      refine lv_iload_n hF.1 hF.2.1 d_M_place_15 rfl (lv_at hl 2 rfl) ?_
      refine lv_icmp_ne (tgt := 21) hF.1 hF.2.1 d_M_place_16 (by decide) (fun q => ?_) (fun q => ?_)
      · refine lv_iinc (k := 0) (v := (nI (i + 1))) hF.1 hF.2.1 d_M_place_21 hl rfl (iinc_p (i)) (by decide) rfl (fun ls hl => ?_)
        have hl : lv_has ls 3 [(2, .int (nI (i + 1))), (0, .ref (ad (104))), (1, .int (k))] := hl
        refine lv_goto (tgt := 2) hF.1 hF.2.1 d_M_place_24 (by decide) ?_
        refine ih (i + 1) H locs ls (by omega) (fun w v hw hv => ?_) hl hZ
        by_cases y : w = i
        · subst y; cases hi.symm.trans hv; exact fun z => q z.symm
        · exact hp w v (by omega) hv
      · refine lv_iload_n hF.1 hF.2.1 d_M_place_19 rfl (lv_at hl 0 rfl) ?_
        exact z_iret hF hr hlocks hZ rfl ⟨rfl, Or.inl ⟨i, j, u, hi, hj, by rw [← q, hrk], rfl⟩⟩ d_M_place_20
  refine lv_iconst (v := (nI (0))) hF.1 hF.2.1 d_M_place_0 (by decide) ?_
  refine lv_istore_n hF.1 hF.2.1 d_M_place_1 rfl hl (by decide) rfl (fun ls hl => ?_)
  have hl : lv_has ls 3 [(2, .int (nI (0))), (0, .ref (ad (104))), (1, .int (k))] := hl
  exact loop mw.length 0 _ _ ls (by omega) (fun w u hw => absurd hw (Nat.not_lt_zero _)) hl hZ
set_option maxHeartbeats 4000000 in
set_option maxRecDepth 100000 in
theorem c_M_beginsTyped (l : Launch) {G : zG} {ad : Nat → Nat} {en : Nat → va_E} {N : Nat} {T : List Nat} {mw : List wd_W} (hN : 111 ≤ N) (h : pM G ad en T mw) {w : Nat} {u : wd_W} (hw : mw[w]? = some u) : zMi l y_M_beginsTyped b_M_beginsTyped 3 .boolean 1 G ad en N [.ref (ad (104)), .int (nI (w))] (fun v en1 => en1 = en ∧ v = bI (wpre u.1 T)) := by
  have hh := h
  obtain ⟨p1, p2, p26, p3, ⟨ft, p4, p5⟩, ⟨fl, fs, fc, p6, p7, p8, p9⟩, ⟨fr, p10⟩, fj, p11⟩ := hh
  have hwl := wd_lt_of hw
  obtain ⟨u8, u26, ut, us, uc, ul⟩ := p9 w u hw
  refine z_met (by decide) (Nat.le_of_ble_eq_true rfl) ?_
  intro p e s m below meth c ls hF hr hlocks hnam hZ hl
  have hF : CallFix p m c b_M_beginsTyped 3 s ([.ref (ad (104)), .int (nI (w))] : List Value).toArray zz R_M := hF
  have hl : lv_has ls 3 [(0, .ref (ad (104))), (1, .int (nI (w)))] := hl
  refine lv_aload_n hF.1 hF.2.1 d_M_beginsTyped_0 rfl (lv_at hl 0 rfl) ?_
  refine gf_M_16 hF hZ (104) (by omega) p1 rfl d_M_beginsTyped_1 ?_
  refine lv_iload_n hF.1 hF.2.1 d_M_beginsTyped_4 rfl (lv_at hl 1 rfl) ?_
  refine z_iald hF hZ (107) (by omega) p7 (w) (by omega) (by omega) d_M_beginsTyped_5 ?_
  refine z_top (y := (nI (u.1.length))) us ?_
  refine lv_aload_n hF.1 hF.2.1 d_M_beginsTyped_6 rfl (lv_at hl 0 rfl) ?_
  refine gf_M_29 hF hZ (104) (by omega) p1 rfl d_M_beginsTyped_7 ?_
  refine lv_icmp_ge (tgt := 15) hF.1 hF.2.1 d_M_beginsTyped_10 (by decide) (fun q => ?_) (fun q => ?_)
  · have q := (nI_leI (by omega) (by omega)).mp q
    have loop : ∀ (n i : Nat) (H : Heap) (locs : List Loc) (ls : Array Slot), (i + n = T.length) → (∀ j, j < i → wd_cd u.1 j = wd_cd T j) → lv_has ls 3 [(2, .int (nI (i))), (0, .ref (ad (104))), (1, .int (nI (w)))] → zH G ad en N s H locs → W p l e (zR 1) s m ([.ref (ad (104)), .int (nI (w))] : List Value).toArray below meth c H locs 0 0 (MQ below (zQi G ad N (fun v en1 => en1 = en ∧ v = bI (wpre u.1 T))) ([.ref (ad (104)), .int (nI (w))] : List Value).toArray s 0 0 (zA G)) (F0 m 17 ls []) := by
      intro n
      induction n with
      | zero =>
        intro i H locs ls hin hp hl hZ
        refine lv_iload_n hF.1 hF.2.1 d_M_beginsTyped_17 rfl (lv_at hl 0 rfl) ?_
        refine lv_aload_n hF.1 hF.2.1 d_M_beginsTyped_18 rfl (lv_at hl 1 rfl) ?_
        refine gf_M_29 hF hZ (104) (by omega) p1 rfl d_M_beginsTyped_19 ?_
        refine lv_icmp_ge (tgt := 53) hF.1 hF.2.1 d_M_beginsTyped_22 (by decide) (fun _ => ?_) (fun h => absurd (nI_le (by omega) (by omega)) h)
        refine lv_iconst (v := (nI (1))) hF.1 hF.2.1 d_M_beginsTyped_53 (by decide) ?_
        exact z_iret hF hr hlocks hZ (by decide) ⟨rfl, by rw [wpre_t (fun j hj => hp j (by omega))]; rfl⟩ d_M_beginsTyped_54
      | succ n ih =>
        intro i H locs ls hin hp hl hZ
        refine lv_iload_n hF.1 hF.2.1 d_M_beginsTyped_17 rfl (lv_at hl 0 rfl) ?_
        refine lv_aload_n hF.1 hF.2.1 d_M_beginsTyped_18 rfl (lv_at hl 1 rfl) ?_
        refine gf_M_29 hF hZ (104) (by omega) p1 rfl d_M_beginsTyped_19 ?_
        refine lv_icmp_ge (tgt := 53) hF.1 hF.2.1 d_M_beginsTyped_22 (by decide) (fun h => absurd h (nI_ge (show i < T.length by omega) (by omega))) (fun _ => ?_)
        refine lv_aload_n hF.1 hF.2.1 d_M_beginsTyped_25 rfl (lv_at hl 1 rfl) ?_
        refine gf_M_13 hF hZ (104) (by omega) p1 rfl d_M_beginsTyped_26 ?_
        refine lv_bipush (v := (nI (8))) hF.1 hF.2.1 d_M_beginsTyped_29 (by decide) ?_
        refine lv_iload_n hF.1 hF.2.1 d_M_beginsTyped_31 rfl (lv_at hl 2 rfl) ?_
        refine lv_imul hF.1 hF.2.1 d_M_beginsTyped_32 ?_
        refine z_top (pk_mul (8) (w)) ?_
        refine lv_iload_n hF.1 hF.2.1 d_M_beginsTyped_33 rfl (lv_at hl 0 rfl) ?_
        refine lv_iadd hF.1 hF.2.1 d_M_beginsTyped_34 ?_
        refine z_top (nI_add ((8) * (w)) (i)) ?_
        refine z_iald hF hZ (106) (by omega) p6 ((8) * (w) + i) (by omega) (by omega) d_M_beginsTyped_35 ?_
        refine z_top (y := (nI (u.1.getD i 0))) (ul i (by omega)) ?_
        refine lv_aload_n hF.1 hF.2.1 d_M_beginsTyped_36 rfl (lv_at hl 1 rfl) ?_
        refine gf_M_7 hF hZ (104) (by omega) p1 rfl d_M_beginsTyped_37 ?_
        refine lv_iload_n hF.1 hF.2.1 d_M_beginsTyped_40 rfl (lv_at hl 0 rfl) ?_
        refine z_iald hF hZ (105) (by omega) p4 (i) (by omega) (by omega) d_M_beginsTyped_41 ?_
        refine z_top (y := (nI (T.getD i 0))) (p5 i (by omega)) ?_
        have z1 := u26 i
        have z2 := p26 i
        refine lv_icmp_eq (tgt := 47) hF.1 hF.2.1 d_M_beginsTyped_42 (by decide) (fun y => ?_) (fun y => ?_)
        · have y := (nI_eq (by omega) (by omega)).mp y
          refine lv_iinc (k := 0) (v := (nI (i + 1))) hF.1 hF.2.1 d_M_beginsTyped_47 hl rfl (iinc_p (i)) (by decide) rfl (fun ls hl => ?_)
          have hl : lv_has ls 3 [(2, .int (nI (i + 1))), (0, .ref (ad (104))), (1, .int (nI (w)))] := hl
          refine lv_goto (tgt := 17) hF.1 hF.2.1 d_M_beginsTyped_50 (by decide) ?_
          refine ih (i + 1) H locs ls (by omega) (fun j hj => ?_) hl hZ
          by_cases z : j = i
          · rw [z, wd_cd_in (by omega), wd_cd_in (by omega), y]
          · exact hp j (by omega)
        · refine lv_iconst (v := (nI (0))) hF.1 hF.2.1 d_M_beginsTyped_45 (by decide) ?_
          exact z_iret hF hr hlocks hZ (by decide) ⟨rfl, by rw [wpre_f (i := i) (by omega) (fun z => y (by rw [(cd_iff (by omega) (by omega)).mp z]))]; rfl⟩ d_M_beginsTyped_46
    refine lv_iconst (v := (nI (0))) hF.1 hF.2.1 d_M_beginsTyped_15 (by decide) ?_
    refine lv_istore_n hF.1 hF.2.1 d_M_beginsTyped_16 rfl hl (by decide) rfl (fun ls hl => ?_)
    have hl : lv_has ls 3 [(2, .int (nI (0))), (0, .ref (ad (104))), (1, .int (nI (w)))] := hl
    exact loop T.length 0 _ _ ls (by omega) (fun j hj => absurd hj (Nat.not_lt_zero _)) hl hZ
  · have q : u.1.length < T.length := Nat.lt_of_not_le (fun z => q (nI_le z (by omega)))
    refine lv_iconst (v := (nI (0))) hF.1 hF.2.1 d_M_beginsTyped_13 (by decide) ?_
    exact z_iret hF hr hlocks hZ (by decide) ⟨rfl, by rw [wpre_f (i := u.1.length) q (by rw [wd_cd_out (Nat.le_refl _), wd_cd_in q]; omega)]; rfl⟩ d_M_beginsTyped_14
set_option maxHeartbeats 4000000 in
set_option maxRecDepth 100000 in
theorem c_M_same (l : Launch) {G : zG} {ad : Nat → Nat} {en : Nat → va_E} {N : Nat} {T : List Nat} {mw : List wd_W} (hN : 111 ≤ N) (h : pM G ad en T mw) : zMi l y_M_same b_M_same 2 .int 2 G ad en N [.ref (ad (104))] (fun v en1 => en1 = en ∧ ((∃ w u, mw[w]? = some u ∧ u.1 = T ∧ v = nI w) ∨ (v = -1 ∧ ∀ u ∈ mw, u.1 ≠ T))) := by
  have hh := h
  obtain ⟨p1, p2, p26, p3, ⟨ft, p4, p5⟩, ⟨fl, fs, fc, p6, p7, p8, p9⟩, ⟨fr, p10⟩, fj, p11⟩ := hh
  refine z_met (by decide) (Nat.le_of_ble_eq_true rfl) ?_
  intro p e s m below meth c ls hF hr hlocks hnam hZ hl
  have hF : CallFix p m c b_M_same 2 s ([.ref (ad (104))] : List Value).toArray zz R_M := hF
  have hl : lv_has ls 2 [(0, .ref (ad (104)))] := hl
  have loop : ∀ (n i : Nat) (H : Heap) (locs : List Loc) (ls : Array Slot), (i + n = mw.length) → (∀ w u, w < i → mw[w]? = some u → u.1 ≠ T) → lv_has ls 2 [(1, .int (nI (i))), (0, .ref (ad (104)))] → zH G ad en N s H locs → W p l e (zR 2) s m ([.ref (ad (104))] : List Value).toArray below meth c H locs 0 0 (MQ below (zQi G ad N (fun v en1 => en1 = en ∧ ((∃ w u, mw[w]? = some u ∧ u.1 = T ∧ v = nI w) ∨ (v = -1 ∧ ∀ u ∈ mw, u.1 ≠ T)))) ([.ref (ad (104))] : List Value).toArray s 0 0 (zA G)) (F0 m 2 ls []) := by
    intro n
    induction n with
    | zero =>
      intro i H locs ls hin hp hl hZ
      refine lv_iload_n hF.1 hF.2.1 d_M_same_2 rfl (lv_at hl 0 rfl) ?_
      refine lv_aload_n hF.1 hF.2.1 d_M_same_3 rfl (lv_at hl 1 rfl) ?_
      refine gf_M_37 hF hZ (104) (by omega) p1 rfl d_M_same_4 ?_
      refine lv_icmp_ge (tgt := 39) hF.1 hF.2.1 d_M_same_7 (by decide) (fun _ => ?_) (fun h => absurd (nI_le (by omega) (by omega)) h)
      refine lv_iconst (v := ((-1))) hF.1 hF.2.1 d_M_same_39 (by decide) ?_
      refine z_iret hF hr hlocks hZ rfl ⟨rfl, Or.inr ⟨rfl, fun u hu => ?_⟩⟩ d_M_same_40
      obtain ⟨k, hk⟩ := List.getElem?_of_mem hu
      exact hp k u (by have := wd_lt_of hk; omega) hk
    | succ n ih =>
      intro i H locs ls hin hp hl hZ
      obtain ⟨u, hi⟩ := wd_some (show i < mw.length by omega)
      obtain ⟨u8, u26, ut, us, uc, ul⟩ := p9 i u hi
      refine lv_iload_n hF.1 hF.2.1 d_M_same_2 rfl (lv_at hl 0 rfl) ?_
      refine lv_aload_n hF.1 hF.2.1 d_M_same_3 rfl (lv_at hl 1 rfl) ?_
      refine gf_M_37 hF hZ (104) (by omega) p1 rfl d_M_same_4 ?_
      refine lv_icmp_ge (tgt := 39) hF.1 hF.2.1 d_M_same_7 (by decide) (fun h => absurd h (nI_ge (show i < mw.length by omega) (by omega))) (fun _ => ?_)
      refine lv_aload_n hF.1 hF.2.1 d_M_same_10 rfl (lv_at hl 1 rfl) ?_
      refine gf_M_16 hF hZ (104) (by omega) p1 rfl d_M_same_11 ?_
      refine lv_iload_n hF.1 hF.2.1 d_M_same_14 rfl (lv_at hl 0 rfl) ?_
      refine z_iald hF hZ (107) (by omega) p7 (i) (by omega) (by omega) d_M_same_15 ?_
      refine z_top (y := (nI (u.1.length))) us ?_
      refine lv_aload_n hF.1 hF.2.1 d_M_same_16 rfl (lv_at hl 1 rfl) ?_
      refine gf_M_29 hF hZ (104) (by omega) p1 rfl d_M_same_17 ?_
      refine lv_icmp_ne (tgt := 33) hF.1 hF.2.1 d_M_same_20 (by decide) (fun q => ?_) (fun q => ?_)
      · refine lv_iinc (k := 0) (v := (nI (i + 1))) hF.1 hF.2.1 d_M_same_33 hl rfl (iinc_p (i)) (by decide) rfl (fun ls hl => ?_)
        have hl : lv_has ls 2 [(1, .int (nI (i + 1))), (0, .ref (ad (104)))] := hl
        refine lv_goto (tgt := 2) hF.1 hF.2.1 d_M_same_36 (by decide) ?_
        refine ih (i + 1) H locs ls (by omega) (fun w v hw hv => ?_) hl hZ
        by_cases y : w = i
        · subst y; cases hi.symm.trans hv; exact fun z => q (by rw [z])
        · exact hp w v (by omega) hv
      · have q := (nI_eq (by omega) (by omega)).mp q
        refine lv_aload_n hF.1 hF.2.1 d_M_same_23 rfl (lv_at hl 1 rfl) ?_
        refine lv_iload_n hF.1 hF.2.1 d_M_same_24 rfl (lv_at hl 0 rfl) ?_
        refine z_calli hZ (z_run cw_M_48 hF hZ (104) (c_M_beginsTyped l hN h hi) (by decide) (by omega) p1 rfl rfl hl.1 rfl (Nat.le_of_ble_eq_true rfl) d_M_same_25) (fun v enq H locs hp hZ => ?_)
        obtain ⟨he, hv⟩ := hp
        subst hv
        have hZ := hZ.to he
        refine lv_if_eq (tgt := 33) hF.1 hF.2.1 d_M_same_28 (by decide) (fun y2 => ?_) (fun y2 => ?_)
        · have y2 := bI_0.mp y2
          refine lv_iinc (k := 0) (v := (nI (i + 1))) hF.1 hF.2.1 d_M_same_33 hl rfl (iinc_p (i)) (by decide) rfl (fun ls hl => ?_)
          have hl : lv_has ls 2 [(1, .int (nI (i + 1))), (0, .ref (ad (104)))] := hl
          refine lv_goto (tgt := 2) hF.1 hF.2.1 d_M_same_36 (by decide) ?_
          refine ih (i + 1) H locs ls (by omega) (fun w v hw hv => ?_) hl hZ
          by_cases y : w = i
          · subst y; cases hi.symm.trans hv; exact fun z => by rw [(wsame_iff q).mpr z] at y2; cases y2
          · exact hp w v (by omega) hv
        · have y2 := bI_1 y2
          refine lv_iload_n hF.1 hF.2.1 d_M_same_31 rfl (lv_at hl 0 rfl) ?_
          exact z_iret hF hr hlocks hZ rfl ⟨rfl, Or.inl ⟨i, u, hi, (wsame_iff q).mp y2, rfl⟩⟩ d_M_same_32
  refine lv_iconst (v := (nI (0))) hF.1 hF.2.1 d_M_same_0 (by decide) ?_
  refine lv_istore_n hF.1 hF.2.1 d_M_same_1 rfl hl (by decide) rfl (fun ls hl => ?_)
  have hl : lv_has ls 2 [(1, .int (nI (0))), (0, .ref (ad (104)))] := hl
  exact loop mw.length 0 _ _ ls (by omega) (fun w u hw => absurd hw (Nat.not_lt_zero _)) hl hZ
end
section
set_option maxHeartbeats 4000000 in
set_option maxRecDepth 100000 in
theorem c_M_learnN (l : Launch) {G : zG} {ad : Nat → Nat} {en : Nat → va_E} {N : Nat} {T : List Nat} {mw : List wd_W} (hN : 111 ≤ N) (h : pM G ad en T mw) {n : Int32} (hno : n < nI 1 ∨ nI 1000000 < n) : zMi l y_M_learn b_M_learn 4 .int 3 G ad en N [.ref (ad (104)), .int (n)] (fun v en1 => v = -1 ∧ en1 = en) := by
  have hh := h
  obtain ⟨p1, p2, p26, p3, ⟨ft, p4, p5⟩, ⟨fl, fs, fc, p6, p7, p8, p9⟩, ⟨fr, p10⟩, fj, p11⟩ := hh
  refine z_met (by decide) (Nat.le_of_ble_eq_true rfl) ?_
  intro p e s m below meth c ls hF hr hlocks hnam hZ hl
  have hF : CallFix p m c b_M_learn 4 s ([.ref (ad (104)), .int (n)] : List Value).toArray zz R_M := hF
  have hl : lv_has ls 4 [(0, .ref (ad (104))), (1, .int (n))] := hl
  refine lv_iload_n hF.1 hF.2.1 d_M_learn_0 rfl (lv_at hl 1 rfl) ?_
  refine lv_iconst (v := (nI (1))) hF.1 hF.2.1 d_M_learn_1 (by decide) ?_
  refine lv_icmp_lt (tgt := 11) hF.1 hF.2.1 d_M_learn_2 (by decide) (fun q => ?_) (fun q => ?_)
  · refine lv_iconst (v := ((-1))) hF.1 hF.2.1 d_M_learn_11 (by decide) ?_
    exact z_iret hF hr hlocks hZ rfl ⟨rfl, rfl⟩ d_M_learn_12
  · refine lv_iload_n hF.1 hF.2.1 d_M_learn_5 rfl (lv_at hl 1 rfl) ?_
    refine lv_ldc hF.1 hF.2.1 hF.2.2.2.1 (hF.2.2.2.2 _ cn_M_52) d_M_learn_6 ?_
    refine z_top (show (1000000 : Int32) = nI 1000000 by decide) ?_
    refine lv_icmp_le (tgt := 13) hF.1 hF.2.1 d_M_learn_8 (by decide) (fun q2 => ?_) (fun q2 => ?_)
    · exact absurd (hno.resolve_left q) (fun z => by
        rw [Int32.lt_iff_toInt_lt] at z; rw [Int32.le_iff_toInt_le] at q2; omega)
    · refine lv_iconst (v := ((-1))) hF.1 hF.2.1 d_M_learn_11 (by decide) ?_
      exact z_iret hF hr hlocks hZ rfl ⟨rfl, rfl⟩ d_M_learn_12
set_option maxHeartbeats 4000000 in
set_option maxRecDepth 100000 in
theorem c_M_learnL (l : Launch) {G : zG} {ad : Nat → Nat} {en : Nat → va_E} {N : Nat} {T : List Nat} {mw : List wd_W} (hN : 111 ≤ N) (h : pM G ad en T mw) {t : Nat} (ht1 : 1 ≤ t) (ht2 : t ≤ 1000000) (hno : T.length = 0 ∨ 8 < T.length) : zMi l y_M_learn b_M_learn 4 .int 3 G ad en N [.ref (ad (104)), .int (nI (t))] (fun v en1 => v = -2 ∧ en1 = en) := by
  have hh := h
  obtain ⟨p1, p2, p26, p3, ⟨ft, p4, p5⟩, ⟨fl, fs, fc, p6, p7, p8, p9⟩, ⟨fr, p10⟩, fj, p11⟩ := hh
  refine z_met (by decide) (Nat.le_of_ble_eq_true rfl) ?_
  intro p e s m below meth c ls hF hr hlocks hnam hZ hl
  have hF : CallFix p m c b_M_learn 4 s ([.ref (ad (104)), .int (nI (t))] : List Value).toArray zz R_M := hF
  have hl : lv_has ls 4 [(0, .ref (ad (104))), (1, .int (nI (t)))] := hl
  refine lv_iload_n hF.1 hF.2.1 d_M_learn_0 rfl (lv_at hl 1 rfl) ?_
  refine lv_iconst (v := (nI (1))) hF.1 hF.2.1 d_M_learn_1 (by decide) ?_
  refine lv_icmp_lt (tgt := 11) hF.1 hF.2.1 d_M_learn_2 (by decide) (fun h => absurd h (nI_nlt ht1 (by omega))) (fun _ => ?_)
  refine lv_iload_n hF.1 hF.2.1 d_M_learn_5 rfl (lv_at hl 1 rfl) ?_
  refine lv_ldc hF.1 hF.2.1 hF.2.2.2.1 (hF.2.2.2.2 _ cn_M_52) d_M_learn_6 ?_
  refine z_top (show (1000000 : Int32) = nI 1000000 by decide) ?_
  refine lv_icmp_le (tgt := 13) hF.1 hF.2.1 d_M_learn_8 (by decide) (fun _ => ?_) (fun h => absurd (nI_le ht2 (by omega)) h)
  refine lv_aload_n hF.1 hF.2.1 d_M_learn_13 rfl (lv_at hl 0 rfl) ?_
  refine gf_M_29 hF hZ (104) (by omega) p1 rfl d_M_learn_14 ?_
  refine lv_if_eq (tgt := 29) hF.1 hF.2.1 d_M_learn_17 (by decide) (fun q => ?_) (fun q => ?_)
  · refine lv_bipush (v := ((-2))) hF.1 hF.2.1 d_M_learn_29 (by decide) ?_
    exact z_iret hF hr hlocks hZ rfl ⟨rfl, rfl⟩ d_M_learn_31
  · have q : ¬ T.length = 0 := fun z => q (by rw [z]; rfl)
    refine lv_aload_n hF.1 hF.2.1 d_M_learn_20 rfl (lv_at hl 0 rfl) ?_
    refine gf_M_29 hF hZ (104) (by omega) p1 rfl d_M_learn_21 ?_
    refine lv_bipush (v := (nI (8))) hF.1 hF.2.1 d_M_learn_24 (by decide) ?_
    refine lv_icmp_le (tgt := 32) hF.1 hF.2.1 d_M_learn_26 (by decide) (fun h => absurd h (nI_ge (show 8 < T.length by omega) (by omega))) (fun _ => ?_)
    refine lv_bipush (v := ((-2))) hF.1 hF.2.1 d_M_learn_29 (by decide) ?_
    exact z_iret hF hr hlocks hZ rfl ⟨rfl, rfl⟩ d_M_learn_31
set_option maxHeartbeats 4000000 in
set_option maxRecDepth 100000 in
theorem c_M_learn (l : Launch) {G : zG} {ad : Nat → Nat} {en : Nat → va_E} {N : Nat} {T : List Nat} {mw : List wd_W} (hN : 111 ≤ N) (h : pM G ad en T mw) {t : Nat} (ht1 : 1 ≤ t) (ht2 : t ≤ 1000000) (hl1 : 1 ≤ T.length) (hl2 : T.length ≤ 8) : zMi l y_M_learn b_M_learn 4 .int 3 G ad en N [.ref (ad (104)), .int (nI (t))] (fun v en1 => (∀ r, r < 104 → en1 r = en r) ∧ ((∃ w u, mw[w]? = some u ∧ u.1 = T ∧ v = 1 ∧ pM G ad en1 T (mw.set w (u.1, min 1000000 (u.2 + t)))) ∨ ((∀ u ∈ mw, u.1 ≠ T) ∧ ((mw.length < 24 ∧ v = 0 ∧ pM G ad en1 T (mw ++ [(T, t)])) ∨ (¬ mw.length < 24 ∧ v = -3 ∧ pM G ad en1 T mw))))) := by
  have hh := h
  obtain ⟨p1, p2, p26, p3, ⟨ft, p4, p5⟩, ⟨fl, fs, fc, p6, p7, p8, p9⟩, ⟨fr, p10⟩, fj, p11⟩ := hh
  refine z_met (by decide) (Nat.le_of_ble_eq_true rfl) ?_
  intro p e s m below meth c ls hF hr hlocks hnam hZ hl
  have hF : CallFix p m c b_M_learn 4 s ([.ref (ad (104)), .int (nI (t))] : List Value).toArray zz R_M := hF
  have hl : lv_has ls 4 [(0, .ref (ad (104))), (1, .int (nI (t)))] := hl
  refine lv_iload_n hF.1 hF.2.1 d_M_learn_0 rfl (lv_at hl 1 rfl) ?_
  refine lv_iconst (v := (nI (1))) hF.1 hF.2.1 d_M_learn_1 (by decide) ?_
  refine lv_icmp_lt (tgt := 11) hF.1 hF.2.1 d_M_learn_2 (by decide) (fun h => absurd h (nI_nlt ht1 (by omega))) (fun _ => ?_)
  refine lv_iload_n hF.1 hF.2.1 d_M_learn_5 rfl (lv_at hl 1 rfl) ?_
  refine lv_ldc hF.1 hF.2.1 hF.2.2.2.1 (hF.2.2.2.2 _ cn_M_52) d_M_learn_6 ?_
  refine z_top (show (1000000 : Int32) = nI 1000000 by decide) ?_
  refine lv_icmp_le (tgt := 13) hF.1 hF.2.1 d_M_learn_8 (by decide) (fun _ => ?_) (fun h => absurd (nI_le ht2 (by omega)) h)
  refine lv_aload_n hF.1 hF.2.1 d_M_learn_13 rfl (lv_at hl 0 rfl) ?_
  refine gf_M_29 hF hZ (104) (by omega) p1 rfl d_M_learn_14 ?_
  refine lv_if_eq (tgt := 29) hF.1 hF.2.1 d_M_learn_17 (by decide) (fun h => absurd h (nI_ne0 hl1 (by omega))) (fun _ => ?_)
  refine lv_aload_n hF.1 hF.2.1 d_M_learn_20 rfl (lv_at hl 0 rfl) ?_
  refine gf_M_29 hF hZ (104) (by omega) p1 rfl d_M_learn_21 ?_
  refine lv_bipush (v := (nI (8))) hF.1 hF.2.1 d_M_learn_24 (by decide) ?_
  refine lv_icmp_le (tgt := 32) hF.1 hF.2.1 d_M_learn_26 (by decide) (fun _ => ?_) (fun h => absurd (nI_le hl2 (by omega)) h)
  refine lv_aload_n hF.1 hF.2.1 d_M_learn_32 rfl (lv_at hl 0 rfl) ?_
  refine z_calli hZ (z_run cw_M_53 hF hZ (104) (c_M_same l hN h) (by decide) (by omega) p1 rfl rfl hl.1 rfl (Nat.le_of_ble_eq_true rfl) d_M_learn_33) (fun v enq H locs hp hZ => ?_)
  obtain ⟨he, hd⟩ := hp
  have hZ := hZ.to he
  rcases hd with ⟨w, u, hw, hu, hv⟩ | ⟨hv, hno⟩
  · subst hv
    have hwl := wd_lt_of hw
    obtain ⟨u8, u26, ut, us, uc, ul⟩ := p9 w u hw
    refine lv_istore_n hF.1 hF.2.1 d_M_learn_36 rfl hl (by decide) rfl (fun ls hl => ?_)
    have hl : lv_has ls 4 [(2, .int (nI (w))), (0, .ref (ad (104))), (1, .int (nI (t)))] := hl
    refine lv_iload_n hF.1 hF.2.1 d_M_learn_37 rfl (lv_at hl 0 rfl) ?_
    refine lv_if_lt (tgt := 75) hF.1 hF.2.1 d_M_learn_38 (by decide) (fun h => absurd h (nI_pos (by omega))) (fun _ => ?_)
    refine lv_aload_n hF.1 hF.2.1 d_M_learn_41 rfl (lv_at hl 1 rfl) ?_
    refine gf_M_19 hF hZ (104) (by omega) p1 rfl d_M_learn_42 ?_
    refine lv_iload_n hF.1 hF.2.1 d_M_learn_45 rfl (lv_at hl 0 rfl) ?_
    refine lv_aload_n hF.1 hF.2.1 d_M_learn_46 rfl (lv_at hl 1 rfl) ?_
    refine gf_M_19 hF hZ (104) (by omega) p1 rfl d_M_learn_47 ?_
    refine lv_iload_n hF.1 hF.2.1 d_M_learn_50 rfl (lv_at hl 0 rfl) ?_
    refine z_iald hF hZ (108) (by omega) p8 (w) (by omega) (by omega) d_M_learn_51 ?_
    refine z_top (y := (nI (u.2))) uc ?_
    refine lv_iload_n hF.1 hF.2.1 d_M_learn_52 rfl (lv_at hl 2 rfl) ?_
    refine lv_iadd hF.1 hF.2.1 d_M_learn_53 ?_
    refine z_top (nI_add (u.2) (t)) ?_
    refine lv_ldc hF.1 hF.2.1 hF.2.2.2.1 (hF.2.2.2.2 _ cn_M_52) d_M_learn_54 ?_
    refine z_top (show (1000000 : Int32) = nI 1000000 by decide) ?_
    refine lv_icmp_le (tgt := 64) hF.1 hF.2.1 d_M_learn_56 (by decide) (fun q => ?_) (fun q => ?_)
    · have q := (nI_leI (by omega) (by omega)).mp q
      refine lv_aload_n hF.1 hF.2.1 d_M_learn_64 rfl (lv_at hl 1 rfl) ?_
      refine gf_M_19 hF hZ (104) (by omega) p1 rfl d_M_learn_65 ?_
      refine lv_iload_n hF.1 hF.2.1 d_M_learn_68 rfl (lv_at hl 0 rfl) ?_
      refine z_iald hF hZ (108) (by omega) p8 (w) (by omega) (by omega) d_M_learn_69 ?_
      refine z_top (y := (nI (u.2))) uc ?_
      refine lv_iload_n hF.1 hF.2.1 d_M_learn_70 rfl (lv_at hl 2 rfl) ?_
      refine lv_iadd hF.1 hF.2.1 d_M_learn_71 ?_
      refine z_top (nI_add (u.2) (t)) ?_
      refine z_iast hF hZ (108) (by omega) p8 (w) (by omega) (by omega) d_M_learn_72 (fun H locs hZ => ?_)
      obtain ⟨ze1, hn2⟩ : ∃ z, z = va_up en (108) (.inl (zI G, 24, .inl (upd (fc) (w) (nI (u.2 + t))))) := ⟨_, rfl⟩
      have hZ : zH G ad ze1 N s H locs := hZ.to hn2.symm
      have ff3 : ze1 (104) = .inr (kM, [.ref (ad (105)), .int (nI (T.length)), .ref (ad (106)), .ref (ad (107)), .ref (ad (108)), .int (nI (mw.length)), .ref (ad (109)), .ref (ad (110))]) := by rw [hn2, va_up_ne _ _ (by omega)]; exact p1
      have ff4 : ze1 (105) = .inl (zI G, 10, .inl (ft)) := by rw [hn2, va_up_ne _ _ (by omega)]; exact p4
      have ff5 : ze1 (106) = .inl (zI G, 192, .inl (fl)) := by rw [hn2, va_up_ne _ _ (by omega)]; exact p6
      have ff6 : ze1 (107) = .inl (zI G, 24, .inl (fs)) := by rw [hn2, va_up_ne _ _ (by omega)]; exact p7
      have ff7 : ze1 (109) = .inl (zI G, 99, .inl (fr)) := by rw [hn2, va_up_ne _ _ (by omega)]; exact p10
      have ff8 : ze1 (110) = .inl (zJ G, 252, .inr (.inl (fj))) := by rw [hn2, va_up_ne _ _ (by omega)]; exact p11
      have ff9 : ze1 (108) = .inl (zI G, 24, .inl (upd (fc) (w) (nI (u.2 + t)))) := by rw [hn2]; exact va_up_self _ _ _
      refine lv_iconst (v := (nI (1))) hF.1 hF.2.1 d_M_learn_73 (by decide) ?_
      refine z_iret hF hr hlocks hZ rfl ⟨fun r hr => by rw [hn2, va_up_ne _ _ (by omega)], Or.inl ⟨w, u, hw, hu, rfl, ⟨by rw [List.length_set]; exact ff3, p2, p26, by rw [List.length_set]; exact p3, ⟨ft, ff4, p5⟩, ⟨fl, fs, upd fc w (nI (u.2 + t)), ff5, ff6, ff9, fun w2 v2 hv2 => ?_⟩, ⟨fr, ff7⟩, fj, ff8⟩⟩⟩ d_M_learn_74
      by_cases e : w2 = w
      · subst e
        rw [List.getElem?_set_self hwl] at hv2
        cases hv2
        exact ⟨u8, u26, by show min 1000000 (u.2 + t) ≤ 1000000; omega, us, by rw [pk_us]; show _ = nI (min 1000000 (u.2 + t)); rw [Nat.min_eq_right (by omega)], ul⟩
      · rw [List.getElem?_set_ne (Ne.symm e)] at hv2
        rw [pk_un e]
        exact p9 w2 v2 hv2
    · have q : 1000000 < u.2 + t := Nat.lt_of_not_le (fun z => q (nI_le z (by omega)))
      refine lv_ldc hF.1 hF.2.1 hF.2.2.2.1 (hF.2.2.2.2 _ cn_M_52) d_M_learn_59 ?_
      refine z_top (show (1000000 : Int32) = nI 1000000 by decide) ?_
      refine lv_goto (tgt := 72) hF.1 hF.2.1 d_M_learn_61 (by decide) ?_
      refine z_iast hF hZ (108) (by omega) p8 (w) (by omega) (by omega) d_M_learn_72 (fun H locs hZ => ?_)
      obtain ⟨ze10, hn11⟩ : ∃ z, z = va_up en (108) (.inl (zI G, 24, .inl (upd (fc) (w) (nI (1000000))))) := ⟨_, rfl⟩
      have hZ : zH G ad ze10 N s H locs := hZ.to hn11.symm
      have ff12 : ze10 (104) = .inr (kM, [.ref (ad (105)), .int (nI (T.length)), .ref (ad (106)), .ref (ad (107)), .ref (ad (108)), .int (nI (mw.length)), .ref (ad (109)), .ref (ad (110))]) := by rw [hn11, va_up_ne _ _ (by omega)]; exact p1
      have ff13 : ze10 (105) = .inl (zI G, 10, .inl (ft)) := by rw [hn11, va_up_ne _ _ (by omega)]; exact p4
      have ff14 : ze10 (106) = .inl (zI G, 192, .inl (fl)) := by rw [hn11, va_up_ne _ _ (by omega)]; exact p6
      have ff15 : ze10 (107) = .inl (zI G, 24, .inl (fs)) := by rw [hn11, va_up_ne _ _ (by omega)]; exact p7
      have ff16 : ze10 (109) = .inl (zI G, 99, .inl (fr)) := by rw [hn11, va_up_ne _ _ (by omega)]; exact p10
      have ff17 : ze10 (110) = .inl (zJ G, 252, .inr (.inl (fj))) := by rw [hn11, va_up_ne _ _ (by omega)]; exact p11
      have ff18 : ze10 (108) = .inl (zI G, 24, .inl (upd (fc) (w) (nI (1000000)))) := by rw [hn11]; exact va_up_self _ _ _
      refine lv_iconst (v := (nI (1))) hF.1 hF.2.1 d_M_learn_73 (by decide) ?_
      refine z_iret hF hr hlocks hZ rfl ⟨fun r hr => by rw [hn11, va_up_ne _ _ (by omega)], Or.inl ⟨w, u, hw, hu, rfl, ⟨by rw [List.length_set]; exact ff12, p2, p26, by rw [List.length_set]; exact p3, ⟨ft, ff13, p5⟩, ⟨fl, fs, upd fc w (nI (1000000)), ff14, ff15, ff18, fun w2 v2 hv2 => ?_⟩, ⟨fr, ff16⟩, fj, ff17⟩⟩⟩ d_M_learn_74
      by_cases e : w2 = w
      · subst e
        rw [List.getElem?_set_self hwl] at hv2
        cases hv2
        exact ⟨u8, u26, by show min 1000000 (u.2 + t) ≤ 1000000; omega, us, by rw [pk_us]; show _ = nI (min 1000000 (u.2 + t)); rw [Nat.min_eq_left (by omega)], ul⟩
      · rw [List.getElem?_set_ne (Ne.symm e)] at hv2
        rw [pk_un e]
        exact p9 w2 v2 hv2
  · subst hv
    refine lv_istore_n hF.1 hF.2.1 d_M_learn_36 rfl hl (by decide) rfl (fun ls hl => ?_)
    have hl : lv_has ls 4 [(2, .int ((-1))), (0, .ref (ad (104))), (1, .int (nI (t)))] := hl
    refine lv_iload_n hF.1 hF.2.1 d_M_learn_37 rfl (lv_at hl 0 rfl) ?_
    refine lv_if_lt (tgt := 75) hF.1 hF.2.1 d_M_learn_38 (by decide) (fun _ => ?_) (fun h => absurd (by decide) h)
    refine lv_aload_n hF.1 hF.2.1 d_M_learn_75 rfl (lv_at hl 1 rfl) ?_
    refine gf_M_37 hF hZ (104) (by omega) p1 rfl d_M_learn_76 ?_
    refine lv_bipush (v := (nI (24))) hF.1 hF.2.1 d_M_learn_79 (by decide) ?_
    refine lv_icmp_ne (tgt := 87) hF.1 hF.2.1 d_M_learn_81 (by decide) (fun q => ?_) (fun q => ?_)
    · have q : mw.length < 24 := by
        have z : ¬ mw.length = 24 := fun z => q (by rw [z])
        omega
      have loop : ∀ (n i : Nat) (en1 : Nat → va_E) (fl1 : Nat → Int32) (H : Heap) (locs : List Loc) (ls : Array Slot), (i + n = T.length) → (∀ r, r ≠ 106 → en1 r = en r) → (en1 106 = .inl (zI G, 192, .inl fl1)) → (∀ a, a < 8 * mw.length → fl1 a = fl a) → (∀ j, j < i → fl1 (8 * mw.length + j) = nI (T.getD j 0)) → lv_has ls 4 [(3, .int (nI (i))), (2, .int ((-1))), (0, .ref (ad (104))), (1, .int (nI (t)))] → zH G ad en1 N s H locs → W p l e (zR 3) s m ([.ref (ad (104)), .int (nI (t))] : List Value).toArray below meth c H locs 0 0 (MQ below (zQi G ad N (fun v en1 => (∀ r, r < 104 → en1 r = en r) ∧ ((∃ w u, mw[w]? = some u ∧ u.1 = T ∧ v = 1 ∧ pM G ad en1 T (mw.set w (u.1, min 1000000 (u.2 + t)))) ∨ ((∀ u ∈ mw, u.1 ≠ T) ∧ ((mw.length < 24 ∧ v = 0 ∧ pM G ad en1 T (mw ++ [(T, t)])) ∨ (¬ mw.length < 24 ∧ v = -3 ∧ pM G ad en1 T mw)))))) ([.ref (ad (104)), .int (nI (t))] : List Value).toArray s 0 0 (zA G)) (F0 m 89 ls []) := by
        intro n
        induction n with
        | zero =>
          intro i en1 fl1 H locs ls hin hfr h6 ha hb hl hZ
          have q1 := (hfr 104 (by omega)).trans p1
          have q4 := (hfr 105 (by omega)).trans p4
          have q7 := (hfr 107 (by omega)).trans p7
          have q8 := (hfr 108 (by omega)).trans p8
          have q10 := (hfr 109 (by omega)).trans p10
          have q11 := (hfr 110 (by omega)).trans p11
          refine lv_iload_n hF.1 hF.2.1 d_M_learn_89 rfl (lv_at hl 0 rfl) ?_
          refine lv_aload_n hF.1 hF.2.1 d_M_learn_90 rfl (lv_at hl 2 rfl) ?_
          refine gf_M_29 hF hZ (104) (by omega) q1 rfl d_M_learn_91 ?_
          refine lv_icmp_ge (tgt := 123) hF.1 hF.2.1 d_M_learn_94 (by decide) (fun _ => ?_) (fun h => absurd (nI_le (by omega) (by omega)) h)
          refine lv_aload_n hF.1 hF.2.1 d_M_learn_123 rfl (lv_at hl 2 rfl) ?_
          refine gf_M_16 hF hZ (104) (by omega) q1 rfl d_M_learn_124 ?_
          refine lv_aload_n hF.1 hF.2.1 d_M_learn_127 rfl (lv_at hl 2 rfl) ?_
          refine gf_M_37 hF hZ (104) (by omega) q1 rfl d_M_learn_128 ?_
          refine lv_aload_n hF.1 hF.2.1 d_M_learn_131 rfl (lv_at hl 2 rfl) ?_
          refine gf_M_29 hF hZ (104) (by omega) q1 rfl d_M_learn_132 ?_
          refine z_iast hF hZ (107) (by omega) q7 (mw.length) (by omega) (by omega) d_M_learn_135 (fun H locs hZ => ?_)
          obtain ⟨ze19, hn20⟩ : ∃ z, z = va_up en1 (107) (.inl (zI G, 24, .inl (upd (fs) (mw.length) (nI (T.length))))) := ⟨_, rfl⟩
          have hZ : zH G ad ze19 N s H locs := hZ.to hn20.symm
          have ff21 : ze19 (104) = .inr (kM, [.ref (ad (105)), .int (nI (T.length)), .ref (ad (106)), .ref (ad (107)), .ref (ad (108)), .int (nI (mw.length)), .ref (ad (109)), .ref (ad (110))]) := by rw [hn20, va_up_ne _ _ (by omega)]; exact q1
          have ff22 : ze19 (105) = .inl (zI G, 10, .inl (ft)) := by rw [hn20, va_up_ne _ _ (by omega)]; exact q4
          have ff23 : ze19 (106) = .inl (zI G, 192, .inl (fl1)) := by rw [hn20, va_up_ne _ _ (by omega)]; exact h6
          have ff24 : ze19 (108) = .inl (zI G, 24, .inl (fc)) := by rw [hn20, va_up_ne _ _ (by omega)]; exact q8
          have ff25 : ze19 (109) = .inl (zI G, 99, .inl (fr)) := by rw [hn20, va_up_ne _ _ (by omega)]; exact q10
          have ff26 : ze19 (110) = .inl (zJ G, 252, .inr (.inl (fj))) := by rw [hn20, va_up_ne _ _ (by omega)]; exact q11
          have ff27 : ze19 (107) = .inl (zI G, 24, .inl (upd (fs) (mw.length) (nI (T.length)))) := by rw [hn20]; exact va_up_self _ _ _
          refine lv_aload_n hF.1 hF.2.1 d_M_learn_136 rfl (lv_at hl 2 rfl) ?_
          refine gf_M_19 hF hZ (104) (by omega) ff21 rfl d_M_learn_137 ?_
          refine lv_aload_n hF.1 hF.2.1 d_M_learn_140 rfl (lv_at hl 2 rfl) ?_
          refine gf_M_37 hF hZ (104) (by omega) ff21 rfl d_M_learn_141 ?_
          refine lv_iload_n hF.1 hF.2.1 d_M_learn_144 rfl (lv_at hl 3 rfl) ?_
          refine z_iast hF hZ (108) (by omega) ff24 (mw.length) (by omega) (by omega) d_M_learn_145 (fun H locs hZ => ?_)
          obtain ⟨ze28, hn29⟩ : ∃ z, z = va_up ze19 (108) (.inl (zI G, 24, .inl (upd (fc) (mw.length) (nI (t))))) := ⟨_, rfl⟩
          have hZ : zH G ad ze28 N s H locs := hZ.to hn29.symm
          have ff30 : ze28 (104) = .inr (kM, [.ref (ad (105)), .int (nI (T.length)), .ref (ad (106)), .ref (ad (107)), .ref (ad (108)), .int (nI (mw.length)), .ref (ad (109)), .ref (ad (110))]) := by rw [hn29, va_up_ne _ _ (by omega)]; exact ff21
          have ff31 : ze28 (105) = .inl (zI G, 10, .inl (ft)) := by rw [hn29, va_up_ne _ _ (by omega)]; exact ff22
          have ff32 : ze28 (106) = .inl (zI G, 192, .inl (fl1)) := by rw [hn29, va_up_ne _ _ (by omega)]; exact ff23
          have ff33 : ze28 (109) = .inl (zI G, 99, .inl (fr)) := by rw [hn29, va_up_ne _ _ (by omega)]; exact ff25
          have ff34 : ze28 (110) = .inl (zJ G, 252, .inr (.inl (fj))) := by rw [hn29, va_up_ne _ _ (by omega)]; exact ff26
          have ff35 : ze28 (107) = .inl (zI G, 24, .inl (upd (fs) (mw.length) (nI (T.length)))) := by rw [hn29, va_up_ne _ _ (by omega)]; exact ff27
          have ff36 : ze28 (108) = .inl (zI G, 24, .inl (upd (fc) (mw.length) (nI (t)))) := by rw [hn29]; exact va_up_self _ _ _
          refine lv_aload_n hF.1 hF.2.1 d_M_learn_146 rfl (lv_at hl 2 rfl) ?_
          refine lv_dup hF.1 hF.2.1 d_M_learn_147 rfl ?_
          refine gf_M_37 hF hZ (104) (by omega) ff30 rfl d_M_learn_148 ?_
          refine lv_iconst (v := (nI (1))) hF.1 hF.2.1 d_M_learn_151 (by decide) ?_
          refine lv_iadd hF.1 hF.2.1 d_M_learn_152 ?_
          refine z_top (nI_add (mw.length) (1)) ?_
          refine pf_M_37 hF hZ (104) (by omega) ff30 (Nat.le_of_ble_eq_true rfl) d_M_learn_153 (fun H locs hZ => ?_)
          obtain ⟨ze37, hn38⟩ : ∃ z, z = va_up ze28 (104) (.inr (kM, [.ref (ad (105)), .int (nI (T.length)), .ref (ad (106)), .ref (ad (107)), .ref (ad (108)), .int (nI (mw.length + 1)), .ref (ad (109)), .ref (ad (110))])) := ⟨_, rfl⟩
          have hZ : zH G ad ze37 N s H locs := hZ.to hn38.symm
          have ff39 : ze37 (105) = .inl (zI G, 10, .inl (ft)) := by rw [hn38, va_up_ne _ _ (by omega)]; exact ff31
          have ff40 : ze37 (106) = .inl (zI G, 192, .inl (fl1)) := by rw [hn38, va_up_ne _ _ (by omega)]; exact ff32
          have ff41 : ze37 (109) = .inl (zI G, 99, .inl (fr)) := by rw [hn38, va_up_ne _ _ (by omega)]; exact ff33
          have ff42 : ze37 (110) = .inl (zJ G, 252, .inr (.inl (fj))) := by rw [hn38, va_up_ne _ _ (by omega)]; exact ff34
          have ff43 : ze37 (107) = .inl (zI G, 24, .inl (upd (fs) (mw.length) (nI (T.length)))) := by rw [hn38, va_up_ne _ _ (by omega)]; exact ff35
          have ff44 : ze37 (108) = .inl (zI G, 24, .inl (upd (fc) (mw.length) (nI (t)))) := by rw [hn38, va_up_ne _ _ (by omega)]; exact ff36
          have ff45 : ze37 (104) = .inr (kM, [.ref (ad (105)), .int (nI (T.length)), .ref (ad (106)), .ref (ad (107)), .ref (ad (108)), .int (nI (mw.length + 1)), .ref (ad (109)), .ref (ad (110))]) := by rw [hn38]; exact va_up_self _ _ _
          refine lv_iconst (v := (nI (0))) hF.1 hF.2.1 d_M_learn_156 (by decide) ?_
          refine z_iret hF hr hlocks hZ rfl ⟨fun r hr => by rw [hn38, va_up_ne _ _ (by omega), hn29, va_up_ne _ _ (by omega), hn20, va_up_ne _ _ (by omega)]; exact hfr r (by omega), Or.inr ⟨hno, Or.inl ⟨q, rfl, ⟨by rw [List.length_append]; exact ff45, p2, p26, by rw [List.length_append]; exact q, ⟨ft, ff39, p5⟩, ⟨fl1, _, _, ff40, ff43, ff44, fun w2 v2 hv2 => ?_⟩, ⟨fr, ff41⟩, fj, ff42⟩⟩⟩⟩ d_M_learn_157
          by_cases e : w2 = mw.length
          · subst e
            rw [List.getElem?_append_right (Nat.le_refl _), Nat.sub_self] at hv2
            cases hv2
            exact ⟨hl2, p26, ht2, by rw [pk_us], by rw [pk_us], fun j hj => hb j (by have hj : j < T.length := hj; omega)⟩
          · have hw2 := wd_lt_of hv2
            rw [List.length_append, List.length_singleton] at hw2
            rw [List.getElem?_append_left (by omega)] at hv2
            obtain ⟨a1, a2, a3, a4, a5, a6⟩ := p9 w2 v2 hv2
            exact ⟨a1, a2, a3, by rw [pk_un e]; exact a4, by rw [pk_un e]; exact a5, fun j hj => by rw [ha _ (by omega)]; exact a6 j hj⟩
        | succ n ih =>
          intro i en1 fl1 H locs ls hin hfr h6 ha hb hl hZ
          have q1 := (hfr 104 (by omega)).trans p1
          have q4 := (hfr 105 (by omega)).trans p4
          have q7 := (hfr 107 (by omega)).trans p7
          have q8 := (hfr 108 (by omega)).trans p8
          have q10 := (hfr 109 (by omega)).trans p10
          have q11 := (hfr 110 (by omega)).trans p11
          refine lv_iload_n hF.1 hF.2.1 d_M_learn_89 rfl (lv_at hl 0 rfl) ?_
          refine lv_aload_n hF.1 hF.2.1 d_M_learn_90 rfl (lv_at hl 2 rfl) ?_
          refine gf_M_29 hF hZ (104) (by omega) q1 rfl d_M_learn_91 ?_
          refine lv_icmp_ge (tgt := 123) hF.1 hF.2.1 d_M_learn_94 (by decide) (fun h => absurd h (nI_ge (show i < T.length by omega) (by omega))) (fun _ => ?_)
          refine lv_aload_n hF.1 hF.2.1 d_M_learn_97 rfl (lv_at hl 2 rfl) ?_
          refine gf_M_13 hF hZ (104) (by omega) q1 rfl d_M_learn_98 ?_
          refine lv_bipush (v := (nI (8))) hF.1 hF.2.1 d_M_learn_101 (by decide) ?_
          refine lv_aload_n hF.1 hF.2.1 d_M_learn_103 rfl (lv_at hl 2 rfl) ?_
          refine gf_M_37 hF hZ (104) (by omega) q1 rfl d_M_learn_104 ?_
          refine lv_imul hF.1 hF.2.1 d_M_learn_107 ?_
          refine z_top (pk_mul (8) (mw.length)) ?_
          refine lv_iload_n hF.1 hF.2.1 d_M_learn_108 rfl (lv_at hl 0 rfl) ?_
          refine lv_iadd hF.1 hF.2.1 d_M_learn_109 ?_
          refine z_top (nI_add ((8) * (mw.length)) (i)) ?_
          refine lv_aload_n hF.1 hF.2.1 d_M_learn_110 rfl (lv_at hl 2 rfl) ?_
          refine gf_M_7 hF hZ (104) (by omega) q1 rfl d_M_learn_111 ?_
          refine lv_iload_n hF.1 hF.2.1 d_M_learn_114 rfl (lv_at hl 0 rfl) ?_
          refine z_iald hF hZ (105) (by omega) q4 (i) (by omega) (by omega) d_M_learn_115 ?_
          refine z_top (y := (nI (T.getD i 0))) (p5 i (by omega)) ?_
          refine z_iast hF hZ (106) (by omega) h6 ((8) * (mw.length) + i) (by omega) (by omega) d_M_learn_116 (fun H locs hZ => ?_)
          obtain ⟨ze46, hn47⟩ : ∃ z, z = va_up en1 (106) (.inl (zI G, 192, .inl (upd (fl1) ((8) * (mw.length) + i) (nI (T.getD i 0))))) := ⟨_, rfl⟩
          have hZ : zH G ad ze46 N s H locs := hZ.to hn47.symm
          have ff48 : ze46 (104) = .inr (kM, [.ref (ad (105)), .int (nI (T.length)), .ref (ad (106)), .ref (ad (107)), .ref (ad (108)), .int (nI (mw.length)), .ref (ad (109)), .ref (ad (110))]) := by rw [hn47, va_up_ne _ _ (by omega)]; exact q1
          have ff49 : ze46 (105) = .inl (zI G, 10, .inl (ft)) := by rw [hn47, va_up_ne _ _ (by omega)]; exact q4
          have ff50 : ze46 (107) = .inl (zI G, 24, .inl (fs)) := by rw [hn47, va_up_ne _ _ (by omega)]; exact q7
          have ff51 : ze46 (108) = .inl (zI G, 24, .inl (fc)) := by rw [hn47, va_up_ne _ _ (by omega)]; exact q8
          have ff52 : ze46 (109) = .inl (zI G, 99, .inl (fr)) := by rw [hn47, va_up_ne _ _ (by omega)]; exact q10
          have ff53 : ze46 (110) = .inl (zJ G, 252, .inr (.inl (fj))) := by rw [hn47, va_up_ne _ _ (by omega)]; exact q11
          have ff54 : ze46 (106) = .inl (zI G, 192, .inl (upd (fl1) ((8) * (mw.length) + i) (nI (T.getD i 0)))) := by rw [hn47]; exact va_up_self _ _ _
          refine lv_iinc (k := 0) (v := (nI (i + 1))) hF.1 hF.2.1 d_M_learn_117 hl rfl (iinc_p (i)) (by decide) rfl (fun ls hl => ?_)
          have hl : lv_has ls 4 [(3, .int (nI (i + 1))), (2, .int ((-1))), (0, .ref (ad (104))), (1, .int (nI (t)))] := hl
          refine lv_goto (tgt := 89) hF.1 hF.2.1 d_M_learn_120 (by decide) ?_
          refine ih (i + 1) ze46 (upd fl1 (8 * mw.length + i) (nI (T.getD i 0))) H locs ls (by omega) (fun r hr => by rw [hn47, va_up_ne _ _ hr]; exact hfr r hr) ff54 (fun a h8 => by rw [pk_un (by omega)]; exact ha a h8) (fun j hj => ?_) hl hZ
          by_cases e : j = i
          · subst e; rw [pk_us]
          · rw [pk_un (by omega)]; exact hb j (by omega)
      refine lv_iconst (v := (nI (0))) hF.1 hF.2.1 d_M_learn_87 (by decide) ?_
      refine lv_istore_n hF.1 hF.2.1 d_M_learn_88 rfl hl (by decide) rfl (fun ls hl => ?_)
      have hl : lv_has ls 4 [(3, .int (nI (0))), (2, .int ((-1))), (0, .ref (ad (104))), (1, .int (nI (t)))] := hl
      exact loop T.length 0 en fl _ _ ls (by omega) (fun _ _ => rfl) p6 (fun _ _ => rfl) (fun j hj => absurd hj (Nat.not_lt_zero _)) hl hZ
    · have q : ¬ mw.length < 24 := by have := (nI_eq (by omega) (by omega)).mp q; omega
      refine lv_bipush (v := ((-3))) hF.1 hF.2.1 d_M_learn_84 (by decide) ?_
      exact z_iret hF hr hlocks hZ rfl ⟨fun r hr => rfl, Or.inr ⟨hno, Or.inr ⟨q, rfl, h⟩⟩⟩ d_M_learn_86
set_option maxHeartbeats 4000000 in
set_option maxRecDepth 100000 in
theorem c_M_forget (l : Launch) {G : zG} {ad : Nat → Nat} {en : Nat → va_E} {N : Nat} {T : List Nat} {mw : List wd_W} (hN : 111 ≤ N) (h : pM G ad en T mw) {C : List wd_W} (hpm : C.Perm mw) (hso : wd_so C) {k : Int32} : zMi l y_M_forget b_M_forget 4 .boolean 5 G ad en N [.ref (ad (104)), .int (k)] (fun v en1 => (∀ r, r < 104 → en1 r = en r) ∧ ((∃ w j u, mw[w]? = some u ∧ C[j]? = some u ∧ k = nI j ∧ v = 1 ∧ pM G ad en1 T (wd_rm mw w)) ∨ ((k < 0 ∨ nI C.length ≤ k) ∧ v = 0 ∧ en1 = en))) := by
  have hh := h
  obtain ⟨p1, p2, p26, p3, ⟨ft, p4, p5⟩, ⟨fl, fs, fc, p6, p7, p8, p9⟩, ⟨fr, p10⟩, fj, p11⟩ := hh
  refine z_met (by decide) (Nat.le_of_ble_eq_true rfl) ?_
  intro p e s m below meth c ls hF hr hlocks hnam hZ hl
  have hF : CallFix p m c b_M_forget 4 s ([.ref (ad (104)), .int (k)] : List Value).toArray zz R_M := hF
  have hl : lv_has ls 4 [(0, .ref (ad (104))), (1, .int (k))] := hl
  refine lv_aload_n hF.1 hF.2.1 d_M_forget_0 rfl (lv_at hl 0 rfl) ?_
  refine lv_iload_n hF.1 hF.2.1 d_M_forget_1 rfl (lv_at hl 1 rfl) ?_
  refine z_calli hZ (z_run cw_M_57 hF hZ (104) (c_M_place l hN h hpm hso) (by decide) (by omega) p1 rfl rfl hl.1 rfl (Nat.le_of_ble_eq_true rfl) d_M_forget_2) (fun v enq H locs hp hZ => ?_)
  obtain ⟨he, hd⟩ := hp
  have hZ := hZ.to he
  rcases hd with ⟨w, j, u, hw, hj, hk, hv⟩ | ⟨hv, hno⟩
  · subst hv
    have hwl := wd_lt_of hw
    obtain ⟨u8, u26, ut, us, uc, ul⟩ := p9 w u hw
    refine lv_istore_n hF.1 hF.2.1 d_M_forget_5 rfl hl (by decide) rfl (fun ls hl => ?_)
    have hl : lv_has ls 4 [(2, .int (nI (w))), (0, .ref (ad (104))), (1, .int (k))] := hl
    refine lv_iload_n hF.1 hF.2.1 d_M_forget_6 rfl (lv_at hl 0 rfl) ?_
    refine lv_if_ge (tgt := 12) hF.1 hF.2.1 d_M_forget_7 (by decide) (fun _ => ?_) (fun h => absurd (nI_pos' (by omega)) h)
    refine lv_aload_n hF.1 hF.2.1 d_M_forget_12 rfl (lv_at hl 1 rfl) ?_
    refine lv_dup hF.1 hF.2.1 d_M_forget_13 rfl ?_
    refine gf_M_37 hF hZ (104) (by omega) p1 rfl d_M_forget_14 ?_
    refine lv_iconst (v := (nI (1))) hF.1 hF.2.1 d_M_forget_17 (by decide) ?_
    refine lv_isub hF.1 hF.2.1 d_M_forget_18 ?_
    refine z_top (pk_sub (show 1 ≤ mw.length by omega)) ?_
    refine pf_M_37 hF hZ (104) (by omega) p1 (Nat.le_of_ble_eq_true rfl) d_M_forget_19 (fun H locs hZ => ?_)
    obtain ⟨ze1, hn2⟩ : ∃ z, z = va_up en (104) (.inr (kM, [.ref (ad (105)), .int (nI (T.length)), .ref (ad (106)), .ref (ad (107)), .ref (ad (108)), .int (nI (mw.length - (1))), .ref (ad (109)), .ref (ad (110))])) := ⟨_, rfl⟩
    have hZ : zH G ad ze1 N s H locs := hZ.to hn2.symm
    have ff3 : ze1 (105) = .inl (zI G, 10, .inl (ft)) := by rw [hn2, va_up_ne _ _ (by omega)]; exact p4
    have ff4 : ze1 (106) = .inl (zI G, 192, .inl (fl)) := by rw [hn2, va_up_ne _ _ (by omega)]; exact p6
    have ff5 : ze1 (107) = .inl (zI G, 24, .inl (fs)) := by rw [hn2, va_up_ne _ _ (by omega)]; exact p7
    have ff6 : ze1 (108) = .inl (zI G, 24, .inl (fc)) := by rw [hn2, va_up_ne _ _ (by omega)]; exact p8
    have ff7 : ze1 (109) = .inl (zI G, 99, .inl (fr)) := by rw [hn2, va_up_ne _ _ (by omega)]; exact p10
    have ff8 : ze1 (110) = .inl (zJ G, 252, .inr (.inl (fj))) := by rw [hn2, va_up_ne _ _ (by omega)]; exact p11
    have ff9 : ze1 (104) = .inr (kM, [.ref (ad (105)), .int (nI (T.length)), .ref (ad (106)), .ref (ad (107)), .ref (ad (108)), .int (nI (mw.length - (1))), .ref (ad (109)), .ref (ad (110))]) := by rw [hn2]; exact va_up_self _ _ _
    have loop : ∀ (n i : Nat) (en1 : Nat → va_E) (fl1 : Nat → Int32) (H : Heap) (locs : List Loc) (ls : Array Slot), (i + n = 8) → (∀ r, r ≠ 106 → en1 r = ze1 r) → (en1 106 = .inl (zI G, 192, .inl fl1)) → (∀ x, fl1 x = if 8 * w ≤ x ∧ x < 8 * w + i then fl (8 * (mw.length - 1) + (x - 8 * w)) else fl x) → lv_has ls 4 [(3, .int (nI (i))), (2, .int (nI (w))), (0, .ref (ad (104))), (1, .int (k))] → zH G ad en1 N s H locs → W p l e (zR 5) s m ([.ref (ad (104)), .int (k)] : List Value).toArray below meth c H locs 0 0 (MQ below (zQi G ad N (fun v en1 => (∀ r, r < 104 → en1 r = en r) ∧ ((∃ w j u, mw[w]? = some u ∧ C[j]? = some u ∧ k = nI j ∧ v = 1 ∧ pM G ad en1 T (wd_rm mw w)) ∨ ((k < 0 ∨ nI C.length ≤ k) ∧ v = 0 ∧ en1 = en)))) ([.ref (ad (104)), .int (k)] : List Value).toArray s 0 0 (zA G)) (F0 m 24 ls []) := by
      intro n
      induction n with
      | zero =>
        intro i en1 fl1 H locs ls hin hfr h6 ha hl hZ
        have q1 := (hfr 104 (by omega)).trans ff9
        have q4 := (hfr 105 (by omega)).trans ff3
        have q7 := (hfr 107 (by omega)).trans ff5
        have q8 := (hfr 108 (by omega)).trans ff6
        have q10 := (hfr 109 (by omega)).trans ff7
        have q11 := (hfr 110 (by omega)).trans ff8
        obtain ⟨x, hx⟩ := wd_some (show mw.length - 1 < mw.length by omega)
        obtain ⟨x8, x26, xt, xs, xc, xl⟩ := p9 _ x hx
        have hi8 : i = 8 := by omega
        subst hi8
        refine lv_iload_n hF.1 hF.2.1 d_M_forget_24 rfl (lv_at hl 0 rfl) ?_
        refine lv_bipush (v := (nI (8))) hF.1 hF.2.1 d_M_forget_25 (by decide) ?_
        refine lv_icmp_ge (tgt := 61) hF.1 hF.2.1 d_M_forget_27 (by decide) (fun _ => ?_) (fun h => absurd (nI_le (by omega) (by omega)) h)
        refine lv_aload_n hF.1 hF.2.1 d_M_forget_61 rfl (lv_at hl 2 rfl) ?_
        refine gf_M_16 hF hZ (104) (by omega) q1 rfl d_M_forget_62 ?_
        refine lv_iload_n hF.1 hF.2.1 d_M_forget_65 rfl (lv_at hl 1 rfl) ?_
        refine lv_aload_n hF.1 hF.2.1 d_M_forget_66 rfl (lv_at hl 2 rfl) ?_
        refine gf_M_16 hF hZ (104) (by omega) q1 rfl d_M_forget_67 ?_
        refine lv_aload_n hF.1 hF.2.1 d_M_forget_70 rfl (lv_at hl 2 rfl) ?_
        refine gf_M_37 hF hZ (104) (by omega) q1 rfl d_M_forget_71 ?_
        refine z_iald hF hZ (107) (by omega) q7 (mw.length - (1)) (by omega) (by omega) d_M_forget_74 ?_
        refine z_top (y := (nI (x.1.length))) xs ?_
        refine z_iast hF hZ (107) (by omega) q7 (w) (by omega) (by omega) d_M_forget_75 (fun H locs hZ => ?_)
        obtain ⟨ze10, hn11⟩ : ∃ z, z = va_up en1 (107) (.inl (zI G, 24, .inl (upd (fs) (w) (nI (x.1.length))))) := ⟨_, rfl⟩
        have hZ : zH G ad ze10 N s H locs := hZ.to hn11.symm
        have ff12 : ze10 (104) = .inr (kM, [.ref (ad (105)), .int (nI (T.length)), .ref (ad (106)), .ref (ad (107)), .ref (ad (108)), .int (nI (mw.length - (1))), .ref (ad (109)), .ref (ad (110))]) := by rw [hn11, va_up_ne _ _ (by omega)]; exact q1
        have ff13 : ze10 (105) = .inl (zI G, 10, .inl (ft)) := by rw [hn11, va_up_ne _ _ (by omega)]; exact q4
        have ff14 : ze10 (106) = .inl (zI G, 192, .inl (fl1)) := by rw [hn11, va_up_ne _ _ (by omega)]; exact h6
        have ff15 : ze10 (108) = .inl (zI G, 24, .inl (fc)) := by rw [hn11, va_up_ne _ _ (by omega)]; exact q8
        have ff16 : ze10 (109) = .inl (zI G, 99, .inl (fr)) := by rw [hn11, va_up_ne _ _ (by omega)]; exact q10
        have ff17 : ze10 (110) = .inl (zJ G, 252, .inr (.inl (fj))) := by rw [hn11, va_up_ne _ _ (by omega)]; exact q11
        have ff18 : ze10 (107) = .inl (zI G, 24, .inl (upd (fs) (w) (nI (x.1.length)))) := by rw [hn11]; exact va_up_self _ _ _
        refine lv_aload_n hF.1 hF.2.1 d_M_forget_76 rfl (lv_at hl 2 rfl) ?_
        refine gf_M_19 hF hZ (104) (by omega) ff12 rfl d_M_forget_77 ?_
        refine lv_iload_n hF.1 hF.2.1 d_M_forget_80 rfl (lv_at hl 1 rfl) ?_
        refine lv_aload_n hF.1 hF.2.1 d_M_forget_81 rfl (lv_at hl 2 rfl) ?_
        refine gf_M_19 hF hZ (104) (by omega) ff12 rfl d_M_forget_82 ?_
        refine lv_aload_n hF.1 hF.2.1 d_M_forget_85 rfl (lv_at hl 2 rfl) ?_
        refine gf_M_37 hF hZ (104) (by omega) ff12 rfl d_M_forget_86 ?_
        refine z_iald hF hZ (108) (by omega) ff15 (mw.length - (1)) (by omega) (by omega) d_M_forget_89 ?_
        refine z_top (y := (nI (x.2))) xc ?_
        refine z_iast hF hZ (108) (by omega) ff15 (w) (by omega) (by omega) d_M_forget_90 (fun H locs hZ => ?_)
        obtain ⟨ze19, hn20⟩ : ∃ z, z = va_up ze10 (108) (.inl (zI G, 24, .inl (upd (fc) (w) (nI (x.2))))) := ⟨_, rfl⟩
        have hZ : zH G ad ze19 N s H locs := hZ.to hn20.symm
        have ff21 : ze19 (104) = .inr (kM, [.ref (ad (105)), .int (nI (T.length)), .ref (ad (106)), .ref (ad (107)), .ref (ad (108)), .int (nI (mw.length - (1))), .ref (ad (109)), .ref (ad (110))]) := by rw [hn20, va_up_ne _ _ (by omega)]; exact ff12
        have ff22 : ze19 (105) = .inl (zI G, 10, .inl (ft)) := by rw [hn20, va_up_ne _ _ (by omega)]; exact ff13
        have ff23 : ze19 (106) = .inl (zI G, 192, .inl (fl1)) := by rw [hn20, va_up_ne _ _ (by omega)]; exact ff14
        have ff24 : ze19 (109) = .inl (zI G, 99, .inl (fr)) := by rw [hn20, va_up_ne _ _ (by omega)]; exact ff16
        have ff25 : ze19 (110) = .inl (zJ G, 252, .inr (.inl (fj))) := by rw [hn20, va_up_ne _ _ (by omega)]; exact ff17
        have ff26 : ze19 (107) = .inl (zI G, 24, .inl (upd (fs) (w) (nI (x.1.length)))) := by rw [hn20, va_up_ne _ _ (by omega)]; exact ff18
        have ff27 : ze19 (108) = .inl (zI G, 24, .inl (upd (fc) (w) (nI (x.2)))) := by rw [hn20]; exact va_up_self _ _ _
        refine lv_iconst (v := (nI (1))) hF.1 hF.2.1 d_M_forget_91 (by decide) ?_
        refine z_iret hF hr hlocks hZ (by decide) ⟨fun r hr => by rw [hn20, va_up_ne _ _ (by omega), hn11, va_up_ne _ _ (by omega), hfr r (by omega), hn2, va_up_ne _ _ (by omega)], Or.inl ⟨w, j, u, hw, hj, hk, by decide, ⟨by rw [wd_rm_len]; exact ff21, p2, p26, by rw [wd_rm_len]; omega, ⟨ft, ff22, p5⟩, ⟨fl1, _, _, ff23, ff26, ff27, fun w2 v2 hv2 => ?_⟩, ⟨fr, ff24⟩, fj, ff25⟩⟩⟩ d_M_forget_92
        obtain ⟨r1, ⟨r2, r3⟩ | ⟨r2, r3⟩⟩ := wd_rm_at hv2
        · subst r2
          cases hx.symm.trans r3
          refine ⟨x8, x26, xt, by rw [pk_us], by rw [pk_us], fun a2 h2 => ?_⟩
          rw [ha, if_pos (by omega), show 8 * (mw.length - 1) + (8 * w2 + a2 - 8 * w2) = 8 * (mw.length - 1) + a2 by omega]
          exact xl a2 h2
        · obtain ⟨b1, b2, b3, b4, b5, b6⟩ := p9 w2 v2 r3
          refine ⟨b1, b2, b3, by rw [pk_un r2]; exact b4, by rw [pk_un r2]; exact b5, fun a2 h2 => ?_⟩
          rw [ha, if_neg (by omega)]
          exact b6 a2 h2
      | succ n ih =>
        intro i en1 fl1 H locs ls hin hfr h6 ha hl hZ
        have q1 := (hfr 104 (by omega)).trans ff9
        have q4 := (hfr 105 (by omega)).trans ff3
        have q7 := (hfr 107 (by omega)).trans ff5
        have q8 := (hfr 108 (by omega)).trans ff6
        have q10 := (hfr 109 (by omega)).trans ff7
        have q11 := (hfr 110 (by omega)).trans ff8
        refine lv_iload_n hF.1 hF.2.1 d_M_forget_24 rfl (lv_at hl 0 rfl) ?_
        refine lv_bipush (v := (nI (8))) hF.1 hF.2.1 d_M_forget_25 (by decide) ?_
        refine lv_icmp_ge (tgt := 61) hF.1 hF.2.1 d_M_forget_27 (by decide) (fun h => absurd h (nI_ge (show i < 8 by omega) (by omega))) (fun _ => ?_)
        refine lv_aload_n hF.1 hF.2.1 d_M_forget_30 rfl (lv_at hl 2 rfl) ?_
        refine gf_M_13 hF hZ (104) (by omega) q1 rfl d_M_forget_31 ?_
        refine lv_bipush (v := (nI (8))) hF.1 hF.2.1 d_M_forget_34 (by decide) ?_
        refine lv_iload_n hF.1 hF.2.1 d_M_forget_36 rfl (lv_at hl 1 rfl) ?_
        refine lv_imul hF.1 hF.2.1 d_M_forget_37 ?_
        refine z_top (pk_mul (8) (w)) ?_
        refine lv_iload_n hF.1 hF.2.1 d_M_forget_38 rfl (lv_at hl 0 rfl) ?_
        refine lv_iadd hF.1 hF.2.1 d_M_forget_39 ?_
        refine z_top (nI_add ((8) * (w)) (i)) ?_
        refine lv_aload_n hF.1 hF.2.1 d_M_forget_40 rfl (lv_at hl 2 rfl) ?_
        refine gf_M_13 hF hZ (104) (by omega) q1 rfl d_M_forget_41 ?_
        refine lv_bipush (v := (nI (8))) hF.1 hF.2.1 d_M_forget_44 (by decide) ?_
        refine lv_aload_n hF.1 hF.2.1 d_M_forget_46 rfl (lv_at hl 2 rfl) ?_
        refine gf_M_37 hF hZ (104) (by omega) q1 rfl d_M_forget_47 ?_
        refine lv_imul hF.1 hF.2.1 d_M_forget_50 ?_
        refine z_top (pk_mul (8) (mw.length - (1))) ?_
        refine lv_iload_n hF.1 hF.2.1 d_M_forget_51 rfl (lv_at hl 0 rfl) ?_
        refine lv_iadd hF.1 hF.2.1 d_M_forget_52 ?_
        refine z_top (nI_add ((8) * (mw.length - (1))) (i)) ?_
        refine z_iald hF hZ (106) (by omega) h6 ((8) * (mw.length - (1)) + i) (by omega) (by omega) d_M_forget_53 ?_
        refine z_iast hF hZ (106) (by omega) h6 ((8) * (w) + i) (by omega) (by omega) d_M_forget_54 (fun H locs hZ => ?_)
        obtain ⟨ze28, hn29⟩ : ∃ z, z = va_up en1 (106) (.inl (zI G, 192, .inl (upd (fl1) ((8) * (w) + i) (fl1 ((8) * (mw.length - (1)) + i))))) := ⟨_, rfl⟩
        have hZ : zH G ad ze28 N s H locs := hZ.to hn29.symm
        have ff30 : ze28 (104) = .inr (kM, [.ref (ad (105)), .int (nI (T.length)), .ref (ad (106)), .ref (ad (107)), .ref (ad (108)), .int (nI (mw.length - (1))), .ref (ad (109)), .ref (ad (110))]) := by rw [hn29, va_up_ne _ _ (by omega)]; exact q1
        have ff31 : ze28 (105) = .inl (zI G, 10, .inl (ft)) := by rw [hn29, va_up_ne _ _ (by omega)]; exact q4
        have ff32 : ze28 (107) = .inl (zI G, 24, .inl (fs)) := by rw [hn29, va_up_ne _ _ (by omega)]; exact q7
        have ff33 : ze28 (108) = .inl (zI G, 24, .inl (fc)) := by rw [hn29, va_up_ne _ _ (by omega)]; exact q8
        have ff34 : ze28 (109) = .inl (zI G, 99, .inl (fr)) := by rw [hn29, va_up_ne _ _ (by omega)]; exact q10
        have ff35 : ze28 (110) = .inl (zJ G, 252, .inr (.inl (fj))) := by rw [hn29, va_up_ne _ _ (by omega)]; exact q11
        have ff36 : ze28 (106) = .inl (zI G, 192, .inl (upd (fl1) ((8) * (w) + i) (fl1 ((8) * (mw.length - (1)) + i)))) := by rw [hn29]; exact va_up_self _ _ _
        refine lv_iinc (k := 0) (v := (nI (i + 1))) hF.1 hF.2.1 d_M_forget_55 hl rfl (iinc_p (i)) (by decide) rfl (fun ls hl => ?_)
        have hl : lv_has ls 4 [(3, .int (nI (i + 1))), (2, .int (nI (w))), (0, .ref (ad (104))), (1, .int (k))] := hl
        refine lv_goto (tgt := 24) hF.1 hF.2.1 d_M_forget_58 (by decide) ?_
        refine ih (i + 1) ze28 _ H locs ls (by omega) (fun r hr => by rw [hn29, va_up_ne _ _ hr]; exact hfr r hr) ff36 (fun x => ?_) hl hZ
        by_cases e : x = 8 * w + i
        · subst e
          rw [pk_us, ha, if_pos (show 8 * w ≤ 8 * w + i ∧ 8 * w + i < 8 * w + (i + 1) by omega), show 8 * w + i - 8 * w = i by omega, if_neg (by omega)]
        · rw [pk_un e, ha]
          by_cases y : 8 * w ≤ x ∧ x < 8 * w + i
          · rw [if_pos y, if_pos (by omega)]
          · rw [if_neg y, if_neg (by omega)]
    refine lv_iconst (v := (nI (0))) hF.1 hF.2.1 d_M_forget_22 (by decide) ?_
    refine lv_istore_n hF.1 hF.2.1 d_M_forget_23 rfl hl (by decide) rfl (fun ls hl => ?_)
    have hl : lv_has ls 4 [(3, .int (nI (0))), (2, .int (nI (w))), (0, .ref (ad (104))), (1, .int (k))] := hl
    exact loop 8 0 ze1 fl _ _ ls (by omega) (fun _ _ => rfl) ff4 (fun x => by rw [if_neg (by omega)]) hl hZ
  · subst hv
    refine lv_istore_n hF.1 hF.2.1 d_M_forget_5 rfl hl (by decide) rfl (fun ls hl => ?_)
    have hl : lv_has ls 4 [(2, .int ((-1))), (0, .ref (ad (104))), (1, .int (k))] := hl
    refine lv_iload_n hF.1 hF.2.1 d_M_forget_6 rfl (lv_at hl 0 rfl) ?_
    refine lv_if_ge (tgt := 12) hF.1 hF.2.1 d_M_forget_7 (by decide) (fun h => absurd h (by decide)) (fun _ => ?_)
    refine lv_iconst (v := (nI (0))) hF.1 hF.2.1 d_M_forget_10 (by decide) ?_
    exact z_iret hF hr hlocks hZ (by decide) ⟨fun r hr => rfl, Or.inr ⟨hno, by decide, rfl⟩⟩ d_M_forget_11
set_option maxHeartbeats 4000000 in
set_option maxRecDepth 100000 in
theorem c_M_letter (l : Launch) {G : zG} {ad : Nat → Nat} {en : Nat → va_E} {N : Nat} {T : List Nat} {mw : List wd_W} (hN : 111 ≤ N) (h : pM G ad en T mw) {C : List wd_W} (hpm : C.Perm mw) (hso : wd_so C) {k i : Int32} : zMi l y_M_letter b_M_letter 4 .int 5 G ad en N [.ref (ad (104)), .int (k), .int (i)] (fun v en1 => en1 = en ∧ ((∃ j u, C[j]? = some u ∧ k = nI j ∧ v = iv (atv u.1 i)) ∨ ((k < 0 ∨ nI C.length ≤ k) ∧ v = -1))) := by
  have hh := h
  obtain ⟨p1, p2, p26, p3, ⟨ft, p4, p5⟩, ⟨fl, fs, fc, p6, p7, p8, p9⟩, ⟨fr, p10⟩, fj, p11⟩ := hh
  refine z_met (by decide) (Nat.le_of_ble_eq_true rfl) ?_
  intro p e s m below meth c ls hF hr hlocks hnam hZ hl
  have hF : CallFix p m c b_M_letter 4 s ([.ref (ad (104)), .int (k), .int (i)] : List Value).toArray zz R_M := hF
  have hl : lv_has ls 4 [(0, .ref (ad (104))), (1, .int (k)), (2, .int (i))] := hl
  refine lv_aload_n hF.1 hF.2.1 d_M_letter_0 rfl (lv_at hl 0 rfl) ?_
  refine lv_iload_n hF.1 hF.2.1 d_M_letter_1 rfl (lv_at hl 1 rfl) ?_
  refine z_calli hZ (z_run cw_M_57 hF hZ (104) (c_M_place l hN h hpm hso) (by decide) (by omega) p1 rfl rfl hl.1 rfl (Nat.le_of_ble_eq_true rfl) d_M_letter_2) (fun v enq H locs hp hZ => ?_)
  obtain ⟨he, hd⟩ := hp
  have hZ := hZ.to he
  rcases hd with ⟨w, j, u, hw, hj, hk, hv⟩ | ⟨hv, hno⟩
  · subst hv
    have hwl := wd_lt_of hw
    obtain ⟨u8, u26, ut, us, uc, ul⟩ := p9 w u hw
    refine lv_istore_n hF.1 hF.2.1 d_M_letter_5 rfl hl (by decide) rfl (fun ls hl => ?_)
    have hl : lv_has ls 4 [(3, .int (nI (w))), (0, .ref (ad (104))), (1, .int (k)), (2, .int (i))] := hl
    refine lv_iload_n hF.1 hF.2.1 d_M_letter_6 rfl (lv_at hl 0 rfl) ?_
    refine lv_if_lt (tgt := 24) hF.1 hF.2.1 d_M_letter_7 (by decide) (fun h => absurd h (nI_pos (by omega))) (fun _ => ?_)
    rcases pk_ix i (n := u.1.length) (by omega) with h3 | h3 | ⟨q, hq, rfl⟩
    · refine lv_iload_n hF.1 hF.2.1 d_M_letter_10 rfl (lv_at hl 3 rfl) ?_
      refine lv_if_lt (tgt := 24) hF.1 hF.2.1 d_M_letter_11 (by decide) (fun _ => ?_) (fun h => absurd h3 h)
      refine lv_iconst (v := ((-1))) hF.1 hF.2.1 d_M_letter_24 (by decide) ?_
      refine lv_goto (tgt := 39) hF.1 hF.2.1 d_M_letter_25 (by decide) ?_
      exact z_iret hF hr hlocks hZ rfl ⟨rfl, Or.inl ⟨j, u, hj, hk, by rw [atv_neg h3]; exact iv_0.symm⟩⟩ d_M_letter_39
    · have h4 : ¬ i < 0 := fun q => by
        rw [Int32.lt_iff_toInt_lt, Int32.toInt_zero] at q
        rw [Int32.le_iff_toInt_le, nI_toInt (by omega)] at h3
        omega
      refine lv_iload_n hF.1 hF.2.1 d_M_letter_10 rfl (lv_at hl 3 rfl) ?_
      refine lv_if_lt (tgt := 24) hF.1 hF.2.1 d_M_letter_11 (by decide) (fun h => absurd h h4) (fun _ => ?_)
      refine lv_iload_n hF.1 hF.2.1 d_M_letter_14 rfl (lv_at hl 3 rfl) ?_
      refine lv_aload_n hF.1 hF.2.1 d_M_letter_15 rfl (lv_at hl 1 rfl) ?_
      refine gf_M_16 hF hZ (104) (by omega) p1 rfl d_M_letter_16 ?_
      refine lv_iload_n hF.1 hF.2.1 d_M_letter_19 rfl (lv_at hl 0 rfl) ?_
      refine z_iald hF hZ (107) (by omega) p7 (w) (by omega) (by omega) d_M_letter_20 ?_
      refine z_top (y := (nI (u.1.length))) us ?_
      refine lv_icmp_lt (tgt := 28) hF.1 hF.2.1 d_M_letter_21 (by decide) (fun h => absurd h (fun z => by
            rw [Int32.lt_iff_toInt_lt] at z; rw [Int32.le_iff_toInt_le] at h3; omega)) (fun _ => ?_)
      refine lv_iconst (v := ((-1))) hF.1 hF.2.1 d_M_letter_24 (by decide) ?_
      refine lv_goto (tgt := 39) hF.1 hF.2.1 d_M_letter_25 (by decide) ?_
      exact z_iret hF hr hlocks hZ rfl ⟨rfl, Or.inl ⟨j, u, hj, hk, by rw [atv_big (by omega) h3 (Nat.le_refl _)]; exact iv_0.symm⟩⟩ d_M_letter_39
    · refine lv_iload_n hF.1 hF.2.1 d_M_letter_10 rfl (lv_at hl 3 rfl) ?_
      refine lv_if_lt (tgt := 24) hF.1 hF.2.1 d_M_letter_11 (by decide) (fun h => absurd h (nI_pos (by omega))) (fun _ => ?_)
      refine lv_iload_n hF.1 hF.2.1 d_M_letter_14 rfl (lv_at hl 3 rfl) ?_
      refine lv_aload_n hF.1 hF.2.1 d_M_letter_15 rfl (lv_at hl 1 rfl) ?_
      refine gf_M_16 hF hZ (104) (by omega) p1 rfl d_M_letter_16 ?_
      refine lv_iload_n hF.1 hF.2.1 d_M_letter_19 rfl (lv_at hl 0 rfl) ?_
      refine z_iald hF hZ (107) (by omega) p7 (w) (by omega) (by omega) d_M_letter_20 ?_
      refine z_top (y := (nI (u.1.length))) us ?_
      refine lv_icmp_lt (tgt := 28) hF.1 hF.2.1 d_M_letter_21 (by decide) (fun _ => ?_) (fun h => absurd (nI_lt hq (by omega)) h)
      refine lv_aload_n hF.1 hF.2.1 d_M_letter_28 rfl (lv_at hl 1 rfl) ?_
      refine gf_M_13 hF hZ (104) (by omega) p1 rfl d_M_letter_29 ?_
      refine lv_bipush (v := (nI (8))) hF.1 hF.2.1 d_M_letter_32 (by decide) ?_
      refine lv_iload_n hF.1 hF.2.1 d_M_letter_34 rfl (lv_at hl 0 rfl) ?_
      refine lv_imul hF.1 hF.2.1 d_M_letter_35 ?_
      refine z_top (pk_mul (8) (w)) ?_
      refine lv_iload_n hF.1 hF.2.1 d_M_letter_36 rfl (lv_at hl 3 rfl) ?_
      refine lv_iadd hF.1 hF.2.1 d_M_letter_37 ?_
      refine z_top (nI_add ((8) * (w)) (q)) ?_
      refine z_iald hF hZ (106) (by omega) p6 ((8) * (w) + q) (by omega) (by omega) d_M_letter_38 ?_
      exact z_iret hF hr hlocks hZ rfl ⟨rfl, Or.inl ⟨j, u, hj, hk, by rw [atv_nI (by omega), wd_cd_in hq, iv_s]; exact ul q hq⟩⟩ d_M_letter_39
  · subst hv
    refine lv_istore_n hF.1 hF.2.1 d_M_letter_5 rfl hl (by decide) rfl (fun ls hl => ?_)
    have hl : lv_has ls 4 [(3, .int ((-1))), (0, .ref (ad (104))), (1, .int (k)), (2, .int (i))] := hl
    refine lv_iload_n hF.1 hF.2.1 d_M_letter_6 rfl (lv_at hl 0 rfl) ?_
    refine lv_if_lt (tgt := 24) hF.1 hF.2.1 d_M_letter_7 (by decide) (fun _ => ?_) (fun h => absurd (by decide) h)
    refine lv_iconst (v := ((-1))) hF.1 hF.2.1 d_M_letter_24 (by decide) ?_
    refine lv_goto (tgt := 39) hF.1 hF.2.1 d_M_letter_25 (by decide) ?_
    exact z_iret hF hr hlocks hZ rfl ⟨rfl, Or.inr ⟨hno, rfl⟩⟩ d_M_letter_39
set_option maxHeartbeats 4000000 in
set_option maxRecDepth 100000 in
theorem c_M_count (l : Launch) {G : zG} {ad : Nat → Nat} {en : Nat → va_E} {N : Nat} {T : List Nat} {mw : List wd_W} (hN : 111 ≤ N) (h : pM G ad en T mw) {C : List wd_W} (hpm : C.Perm mw) (hso : wd_so C) {k : Int32} : zMi l y_M_count b_M_count 3 .int 5 G ad en N [.ref (ad (104)), .int (k)] (fun v en1 => en1 = en ∧ ((∃ j u, C[j]? = some u ∧ k = nI j ∧ v = nI u.2) ∨ ((k < 0 ∨ nI C.length ≤ k) ∧ v = 0))) := by
  have hh := h
  obtain ⟨p1, p2, p26, p3, ⟨ft, p4, p5⟩, ⟨fl, fs, fc, p6, p7, p8, p9⟩, ⟨fr, p10⟩, fj, p11⟩ := hh
  refine z_met (by decide) (Nat.le_of_ble_eq_true rfl) ?_
  intro p e s m below meth c ls hF hr hlocks hnam hZ hl
  have hF : CallFix p m c b_M_count 3 s ([.ref (ad (104)), .int (k)] : List Value).toArray zz R_M := hF
  have hl : lv_has ls 3 [(0, .ref (ad (104))), (1, .int (k))] := hl
  refine lv_aload_n hF.1 hF.2.1 d_M_count_0 rfl (lv_at hl 0 rfl) ?_
  refine lv_iload_n hF.1 hF.2.1 d_M_count_1 rfl (lv_at hl 1 rfl) ?_
  refine z_calli hZ (z_run cw_M_57 hF hZ (104) (c_M_place l hN h hpm hso) (by decide) (by omega) p1 rfl rfl hl.1 rfl (Nat.le_of_ble_eq_true rfl) d_M_count_2) (fun v enq H locs hp hZ => ?_)
  obtain ⟨he, hd⟩ := hp
  have hZ := hZ.to he
  rcases hd with ⟨w, j, u, hw, hj, hk, hv⟩ | ⟨hv, hno⟩
  · subst hv
    have hwl := wd_lt_of hw
    obtain ⟨u8, u26, ut, us, uc, ul⟩ := p9 w u hw
    refine lv_istore_n hF.1 hF.2.1 d_M_count_5 rfl hl (by decide) rfl (fun ls hl => ?_)
    have hl : lv_has ls 3 [(2, .int (nI (w))), (0, .ref (ad (104))), (1, .int (k))] := hl
    refine lv_iload_n hF.1 hF.2.1 d_M_count_6 rfl (lv_at hl 0 rfl) ?_
    refine lv_if_ge (tgt := 14) hF.1 hF.2.1 d_M_count_7 (by decide) (fun _ => ?_) (fun h => absurd (nI_pos' (by omega)) h)
    refine lv_aload_n hF.1 hF.2.1 d_M_count_14 rfl (lv_at hl 1 rfl) ?_
    refine gf_M_19 hF hZ (104) (by omega) p1 rfl d_M_count_15 ?_
    refine lv_iload_n hF.1 hF.2.1 d_M_count_18 rfl (lv_at hl 0 rfl) ?_
    refine z_iald hF hZ (108) (by omega) p8 (w) (by omega) (by omega) d_M_count_19 ?_
    exact z_iret hF hr hlocks hZ rfl ⟨rfl, Or.inl ⟨j, u, hj, hk, uc⟩⟩ d_M_count_20
  · subst hv
    refine lv_istore_n hF.1 hF.2.1 d_M_count_5 rfl hl (by decide) rfl (fun ls hl => ?_)
    have hl : lv_has ls 3 [(2, .int ((-1))), (0, .ref (ad (104))), (1, .int (k))] := hl
    refine lv_iload_n hF.1 hF.2.1 d_M_count_6 rfl (lv_at hl 0 rfl) ?_
    refine lv_if_ge (tgt := 14) hF.1 hF.2.1 d_M_count_7 (by decide) (fun h => absurd h (by decide)) (fun _ => ?_)
    refine lv_iconst (v := (nI (0))) hF.1 hF.2.1 d_M_count_10 (by decide) ?_
    refine lv_goto (tgt := 20) hF.1 hF.2.1 d_M_count_11 (by decide) ?_
    exact z_iret hF hr hlocks hZ rfl ⟨rfl, Or.inr ⟨hno, by decide⟩⟩ d_M_count_20
set_option maxHeartbeats 4000000 in
set_option maxRecDepth 100000 in
theorem c_M_rank (l : Launch) {G : zG} {ad : Nat → Nat} {en : Nat → va_E} {N : Nat} {T : List Nat} {mw : List wd_W} (hN : 111 ≤ N) (h : pM G ad en T mw) {C : List wd_W} (hpm : C.Perm mw) (hso : wd_so C) : zMi l y_M_rank b_M_rank 2 .int 4 G ad en N [.ref (ad (104))] (fun v en1 => en1 = en ∧ ((∃ k u, C[k]? = some u ∧ u.1 = T ∧ v = nI k) ∨ (v = -1 ∧ ∀ u ∈ C, u.1 ≠ T))) := by
  have hh := h
  obtain ⟨p1, p2, p26, p3, ⟨ft, p4, p5⟩, ⟨fl, fs, fc, p6, p7, p8, p9⟩, ⟨fr, p10⟩, fj, p11⟩ := hh
  refine z_met (by decide) (Nat.le_of_ble_eq_true rfl) ?_
  intro p e s m below meth c ls hF hr hlocks hnam hZ hl
  have hF : CallFix p m c b_M_rank 2 s ([.ref (ad (104))] : List Value).toArray zz R_M := hF
  have hl : lv_has ls 2 [(0, .ref (ad (104)))] := hl
  refine lv_aload_n hF.1 hF.2.1 d_M_rank_0 rfl (lv_at hl 0 rfl) ?_
  refine z_calli hZ (z_run cw_M_53 hF hZ (104) (c_M_same l hN h) (by decide) (by omega) p1 rfl rfl hl.1 rfl (Nat.le_of_ble_eq_true rfl) d_M_rank_1) (fun v enq H locs hp hZ => ?_)
  obtain ⟨he, hd⟩ := hp
  have hZ := hZ.to he
  rcases hd with ⟨w, u, hw, hu, hv⟩ | ⟨hv, hno⟩
  · subst hv
    have hwl := wd_lt_of hw
    obtain ⟨j, hj, hrk⟩ := wd_rank2 hpm hso hw
    refine lv_istore_n hF.1 hF.2.1 d_M_rank_4 rfl hl (by decide) rfl (fun ls hl => ?_)
    have hl : lv_has ls 2 [(1, .int (nI (w))), (0, .ref (ad (104)))] := hl
    refine lv_iload_n hF.1 hF.2.1 d_M_rank_5 rfl (lv_at hl 0 rfl) ?_
    refine lv_if_ge (tgt := 13) hF.1 hF.2.1 d_M_rank_6 (by decide) (fun _ => ?_) (fun h => absurd (nI_pos' (by omega)) h)
    refine lv_aload_n hF.1 hF.2.1 d_M_rank_13 rfl (lv_at hl 1 rfl) ?_
    refine lv_iload_n hF.1 hF.2.1 d_M_rank_14 rfl (lv_at hl 0 rfl) ?_
    refine z_calli hZ (z_run cw_M_44 hF hZ (104) (c_M_rankOf l hN h hw) (by decide) (by omega) p1 rfl rfl hl.1 rfl (Nat.le_of_ble_eq_true rfl) d_M_rank_15) (fun v enq H locs hp hZ => ?_)
    obtain ⟨he, hv⟩ := hp
    subst hv
    have hZ := hZ.to he
    exact z_iret hF hr hlocks hZ rfl ⟨rfl, Or.inl ⟨j, u, hj, hu, by rw [hrk]⟩⟩ d_M_rank_18
  · subst hv
    refine lv_istore_n hF.1 hF.2.1 d_M_rank_4 rfl hl (by decide) rfl (fun ls hl => ?_)
    have hl : lv_has ls 2 [(1, .int ((-1))), (0, .ref (ad (104)))] := hl
    refine lv_iload_n hF.1 hF.2.1 d_M_rank_5 rfl (lv_at hl 0 rfl) ?_
    refine lv_if_ge (tgt := 13) hF.1 hF.2.1 d_M_rank_6 (by decide) (fun h => absurd h (by decide)) (fun _ => ?_)
    refine lv_iconst (v := ((-1))) hF.1 hF.2.1 d_M_rank_9 (by decide) ?_
    refine lv_goto (tgt := 18) hF.1 hF.2.1 d_M_rank_10 (by decide) ?_
    exact z_iret hF hr hlocks hZ rfl ⟨rfl, Or.inr ⟨rfl, fun u hu => hno u (hpm.mem_iff.mp hu)⟩⟩ d_M_rank_18
end
section
/-- the reference's flood: all but role 109 is as in en; role 109 holds rho -/
def fw (G : zG) (en en1 : Nat → va_E) (rho : Nat → Nat) : Prop := (∀ r, r ≠ 109 → en1 r = en r) ∧ ∃ f : Nat → Int32, en1 109 = .inl (zI G, 99, .inl f) ∧ ∀ x, x < 99 → f x = iv (rho x)
theorem bf_lt {t w : List Nat} {ds b : Nat} {rho : Nat → Nat} (h : bf_ok t w ds b rho) (hb : b < 2 ^ 30) : ∀ x, x < 99 → rho x < 2 ^ 31 := fun x hx => by
  by_cases q : rho x = 0
  · omega
  · have := h x hx q; omega
theorem bf_r_lt {rho : Nat → Nat} {p c : Nat} (h : ∀ x, x < 99 → rho x < 2 ^ 31) (hc : c < 2 ^ 30) : ∀ x, x < 99 → bf_r rho p c x < 2 ^ 31 := fun x hx => by
  unfold bf_r
  split
  · omega
  · exact h x hx
set_option maxHeartbeats 4000000 in
set_option maxRecDepth 100000 in
theorem c_M_reach (l : Launch) {G : zG} {ad : Nat → Nat} {en : Nat → va_E} {N : Nat} {en0 : Nat → va_E} {T : List Nat} {mw : List wd_W} (hN : 111 ≤ N) (h : pM G ad en0 T mw) {rho : Nat → Nat} (hw : fw G en0 en rho) (hb : ∀ x, x < 99 → rho x < 2 ^ 31) {q k : Nat} (hq : q < 99) (hk : k < 2 ^ 30) : zMv l y_M_reach b_M_reach 3 1 G ad en N [.ref (ad (104)), .int (nI (q)), .int (nI (k))] (fun en1 => fw G en0 en1 (bf_r rho q k)) := by
  obtain ⟨hfr, f, e9, hf⟩ := hw
  have hh := h
  obtain ⟨p1, -⟩ := hh
  have p1 := (hfr 104 (by omega)).trans p1
  have hqb := hb q hq
  refine z_met (by decide) (Nat.le_of_ble_eq_true rfl) ?_
  intro p e s m below meth c ls hF hr hlocks hnam hZ hl
  have hF : CallFix p m c b_M_reach 3 s ([.ref (ad (104)), .int (nI (q)), .int (nI (k))] : List Value).toArray zz R_M := hF
  have hl : lv_has ls 3 [(0, .ref (ad (104))), (1, .int (nI (q))), (2, .int (nI (k)))] := hl
  refine lv_aload_n hF.1 hF.2.1 d_M_reach_0 rfl (lv_at hl 0 rfl) ?_
  refine gf_M_22 hF hZ (104) (by omega) p1 rfl d_M_reach_1 ?_
  refine lv_iload_n hF.1 hF.2.1 d_M_reach_4 rfl (lv_at hl 1 rfl) ?_
  refine z_iald hF hZ (109) (by omega) e9 (q) (by omega) (by omega) d_M_reach_5 ?_
  refine z_top (y := (iv (rho q))) (hf q hq) ?_
  refine lv_if_ge (tgt := 16) hF.1 hF.2.1 d_M_reach_6 (by decide) (fun z => ?_) (fun z => ?_)
  · have z : rho q ≠ 0 := fun y => by rw [y] at z; exact absurd z (by decide)
    exact z_vret hF hr hlocks hZ ⟨hfr, f, e9, fun x hx => by rw [bf_r_no z]; exact hf x hx⟩ d_M_reach_16
  · have z : rho q = 0 := Classical.byContradiction (fun y => z (by
      obtain ⟨v, hv⟩ : ∃ v, rho q = v + 1 := ⟨rho q - 1, by omega⟩
      rw [hv, iv_s]; exact nI_pos' (by omega)))
    refine lv_aload_n hF.1 hF.2.1 d_M_reach_9 rfl (lv_at hl 0 rfl) ?_
    refine gf_M_22 hF hZ (104) (by omega) p1 rfl d_M_reach_10 ?_
    refine lv_iload_n hF.1 hF.2.1 d_M_reach_13 rfl (lv_at hl 1 rfl) ?_
    refine lv_iload_n hF.1 hF.2.1 d_M_reach_14 rfl (lv_at hl 2 rfl) ?_
    refine z_iast hF hZ (109) (by omega) e9 (q) (by omega) (by omega) d_M_reach_15 (fun H locs hZ => ?_)
    obtain ⟨ze1, hn2⟩ : ∃ z, z = va_up en (109) (.inl (zI G, 99, .inl (upd (f) (q) (nI (k))))) := ⟨_, rfl⟩
    have hZ : zH G ad ze1 N s H locs := hZ.to hn2.symm
    have ff3 : ze1 (104) = .inr (kM, [.ref (ad (105)), .int (nI (T.length)), .ref (ad (106)), .ref (ad (107)), .ref (ad (108)), .int (nI (mw.length)), .ref (ad (109)), .ref (ad (110))]) := by rw [hn2, va_up_ne _ _ (by omega)]; exact p1
    have ff4 : ze1 (109) = .inl (zI G, 99, .inl (upd (f) (q) (nI (k)))) := by rw [hn2]; exact va_up_self _ _ _
    exact z_vret hF hr hlocks hZ ⟨fun r hr => by rw [hn2, va_up_ne _ _ hr]; exact hfr r hr, _, ff4, fun x hx => by
        by_cases y : x = q
        · subst y; rw [pk_us, bf_r_new z, iv_s]
        · rw [pk_un y, bf_r_ne y]; exact hf x hx⟩ d_M_reach_16
set_option maxHeartbeats 4000000 in
set_option maxRecDepth 100000 in
theorem c_M_far (l : Launch) {G : zG} {ad : Nat → Nat} {en : Nat → va_E} {N : Nat} {T : List Nat} {mw : List wd_W} (hN : 111 ≤ N) (h : pM G ad en T mw) {w : Nat} {u : wd_W} (hw : mw[w]? = some u) {i j : Nat} (hi : i ≤ T.length) (hj : j ≤ u.1.length) : zMi l y_M_far b_M_far 8 .int 2 G ad en N [.ref (ad (104)), .int (nI (w)), .int (nI (i)), .int (nI (j))] (fun v en1 => v = nI (ed_d T u.1 i j) ∧ (∃ f : Nat → Int32, en1 109 = .inl (zI G, 99, .inl f)) ∧ ∀ r, r ≠ 109 → en1 r = en r) := by
  have hh := h
  obtain ⟨p1, p2, p26, p3, ⟨ft, p4, p5⟩, ⟨fl, fs, fc, p6, p7, p8, p9⟩, ⟨fr, p10⟩, fj, p11⟩ := hh
  have hwl := wd_lt_of hw
  obtain ⟨u8, u26, ut, us, uc, ul⟩ := p9 w u hw
  obtain ⟨ds, hds⟩ : ∃ z, z = ed_d T u.1 i j := ⟨_, rfl⟩
  have h18 : ds ≤ 18 := by rw [hds]; exact ed_18 hi hj p2 u8
  refine z_met (by decide) (Nat.le_of_ble_eq_true rfl) ?_
  intro p e s m below meth c ls hF hr hlocks hnam hZ hl
  have hF : CallFix p m c b_M_far 8 s ([.ref (ad (104)), .int (nI (w)), .int (nI (i)), .int (nI (j))] : List Value).toArray zz R_M := hF
  have hl : lv_has ls 8 [(0, .ref (ad (104))), (1, .int (nI (w))), (2, .int (nI (i))), (3, .int (nI (j)))] := hl
  have pass2 : ∀ (n q k : Nat) (rho : Nat → Nat) (en1 : Nat → va_E) (H : Heap) (locs : List Loc) (ls : Array Slot), q + n = 99 → k < 19 → fw G en en1 rho → bf_ok T u.1 ds (k + 2) rho → bf_2 T u.1 ds k q rho → (∀ (rho : Nat → Nat) (en1 : Nat → va_E) (H : Heap) (locs : List Loc) (ls : Array Slot), fw G en en1 rho → bf_ok T u.1 ds (k + 2) rho → bf_1 T u.1 ds (k + 1) 0 rho → lv_has ls 8 [(5, .int (nI (99))), (4, .int (nI (k))), (0, .ref (ad (104))), (1, .int (nI (w))), (2, .int (nI (i))), (3, .int (nI (j)))] → zH G ad en1 N s H locs → W p l e (zR 2) s m ([.ref (ad (104)), .int (nI (w)), .int (nI (i)), .int (nI (j))] : List Value).toArray below meth c H locs 0 0 (MQ below (zQi G ad N (fun v en1 => v = nI (ed_d T u.1 i j) ∧ (∃ f : Nat → Int32, en1 109 = .inl (zI G, 99, .inl f)) ∧ ∀ r, r ≠ 109 → en1 r = en r)) ([.ref (ad (104)), .int (nI (w)), .int (nI (i)), .int (nI (j))] : List Value).toArray s 0 0 (zA G)) (F0 m 297 ls [])) → lv_has ls 8 [(5, .int (nI (q))), (4, .int (nI (k))), (0, .ref (ad (104))), (1, .int (nI (w))), (2, .int (nI (i))), (3, .int (nI (j)))] → zH G ad en1 N s H locs → W p l e (zR 2) s m ([.ref (ad (104)), .int (nI (w)), .int (nI (i)), .int (nI (j))] : List Value).toArray below meth c H locs 0 0 (MQ below (zQi G ad N (fun v en1 => v = nI (ed_d T u.1 i j) ∧ (∃ f : Nat → Int32, en1 109 = .inl (zI G, 99, .inl f)) ∧ ∀ r, r ≠ 109 → en1 r = en r)) ([.ref (ad (104)), .int (nI (w)), .int (nI (i)), .int (nI (j))] : List Value).toArray s 0 0 (zA G)) (F0 m 171 ls []) := by
    intro n
    induction n with
    | zero =>
      intro q k rho en1 H locs ls hin hk hfw hok h2 K hl hZ
      have hq : q = 99 := by omega
      subst hq
      refine lv_iload hF.1 hF.2.1 d_M_far_171 (lv_at hl 0 rfl) ?_
      refine lv_bipush (v := (nI (99))) hF.1 hF.2.1 d_M_far_173 (by decide) ?_
      refine lv_icmp_ge (tgt := 297) hF.1 hF.2.1 d_M_far_175 (by decide) (fun _ => ?_) (fun h => absurd (nI_le (Nat.le_refl _) (by omega)) h)
      exact K rho en1 H locs ls hfw hok (bf_end h2) hl hZ
    | succ n ih =>
      intro q k rho en1 H locs ls hin hk hfw hok h2 K hl hZ
      have hb := bf_lt hok (by omega)
      have hqb := hb q (by omega)
      have hfr := hfw.1
      obtain ⟨f, e9, hf⟩ := hfw.2
      have q1 := (hfr 104 (by omega)).trans p1
      have q4 := (hfr 105 (by omega)).trans p4
      have q6 := (hfr 106 (by omega)).trans p6
      have q7 := (hfr 107 (by omega)).trans p7
      refine lv_iload hF.1 hF.2.1 d_M_far_171 (lv_at hl 0 rfl) ?_
      refine lv_bipush (v := (nI (99))) hF.1 hF.2.1 d_M_far_173 (by decide) ?_
      refine lv_icmp_ge (tgt := 297) hF.1 hF.2.1 d_M_far_175 (by decide) (fun h => absurd h (nI_ge (show q < 99 by omega) (by omega))) (fun _ => ?_)
      refine lv_aload_n hF.1 hF.2.1 d_M_far_178 rfl (lv_at hl 2 rfl) ?_
      refine gf_M_22 hF hZ (104) (by omega) q1 rfl d_M_far_179 ?_
      refine lv_iload hF.1 hF.2.1 d_M_far_182 (lv_at hl 0 rfl) ?_
      refine z_iald hF hZ (109) (by omega) e9 (q) (by omega) (by omega) d_M_far_184 ?_
      refine z_top (y := (iv (rho q))) (hf q (by omega)) ?_
      refine lv_iload hF.1 hF.2.1 d_M_far_185 (lv_at hl 1 rfl) ?_
      refine lv_icmp_eq (tgt := 193) hF.1 hF.2.1 d_M_far_187 (by decide) (fun z => ?_) (fun z => ?_)
      · have z : rho q = k + 1 := (iv_nI hqb (by omega)).mp z
        have hs := bf_2s u8 p2 hok h2 (by omega) z
        have hqq := hok q (by omega) (by omega)
        refine lv_iload hF.1 hF.2.1 d_M_far_193 (lv_at hl 0 rfl) ?_
        refine lv_bipush (v := (nI (9))) hF.1 hF.2.1 d_M_far_195 (by decide) ?_
        refine lv_idiv hF.1 hF.2.1 d_M_far_197 (by decide) ?_
        refine z_top (y := (nI (q / 9))) (pk_div (by omega) (by omega) (by omega)) ?_
        refine lv_aload_n hF.1 hF.2.1 d_M_far_198 rfl (lv_at hl 2 rfl) ?_
        refine gf_M_29 hF hZ (104) (by omega) q1 rfl d_M_far_199 ?_
        refine lv_icmp_ge (tgt := 209) hF.1 hF.2.1 d_M_far_202 (by decide) (fun xm => ?_) (fun xm => ?_)
        · have xm : ¬ q / 9 < T.length := by have := (nI_leI (by omega) (by omega)).mp xm; omega
          refine lv_iconst (v := (nI (0))) hF.1 hF.2.1 d_M_far_209 (by decide) ?_
          refine lv_istore hF.1 hF.2.1 d_M_far_210 hl (by decide) rfl (fun ls hl => ?_)
          have hl : lv_has ls 8 [(6, .int (nI (0))), (5, .int (nI (q))), (4, .int (nI (k))), (0, .ref (ad (104))), (1, .int (nI (w))), (2, .int (nI (i))), (3, .int (nI (j)))] := hl
          refine lv_iload hF.1 hF.2.1 d_M_far_212 (lv_at hl 1 rfl) ?_
          refine lv_bipush (v := (nI (9))) hF.1 hF.2.1 d_M_far_214 (by decide) ?_
          refine lv_irem hF.1 hF.2.1 d_M_far_216 (by decide) ?_
          refine z_top (y := (nI (q % 9))) (pk_rem (by omega) (by omega) (by omega)) ?_
          refine lv_aload_n hF.1 hF.2.1 d_M_far_217 rfl (lv_at hl 3 rfl) ?_
          refine gf_M_16 hF hZ (104) (by omega) q1 rfl d_M_far_218 ?_
          refine lv_iload_n hF.1 hF.2.1 d_M_far_221 rfl (lv_at hl 4 rfl) ?_
          refine z_iald hF hZ (107) (by omega) q7 (w) (by omega) (by omega) d_M_far_222 ?_
          refine z_top (y := (nI (u.1.length))) us ?_
          refine lv_icmp_ge (tgt := 230) hF.1 hF.2.1 d_M_far_223 (by decide) (fun yc => ?_) (fun yc => ?_)
          · have yc : ¬ q % 9 < u.1.length := by have := (nI_leI (by omega) (by omega)).mp yc; omega
            refine lv_iconst (v := (nI (0))) hF.1 hF.2.1 d_M_far_230 (by decide) ?_
            refine lv_istore hF.1 hF.2.1 d_M_far_231 hl (by decide) rfl (fun ls hl => ?_)
            have hl : lv_has ls 8 [(7, .int (nI (0))), (6, .int (nI (0))), (5, .int (nI (q))), (4, .int (nI (k))), (0, .ref (ad (104))), (1, .int (nI (w))), (2, .int (nI (i))), (3, .int (nI (j)))] := hl
            refine lv_iload hF.1 hF.2.1 d_M_far_233 (lv_at hl 1 rfl) ?_
            refine lv_if_eq (tgt := 256) hF.1 hF.2.1 d_M_far_235 (by decide) (fun _ => ?_) (fun h => absurd (by decide) h)
            refine lv_iload hF.1 hF.2.1 d_M_far_256 (lv_at hl 1 rfl) ?_
            refine lv_if_eq (tgt := 274) hF.1 hF.2.1 d_M_far_258 (by decide) (fun _ => ?_) (fun h => absurd (by decide) h)
            refine lv_iload hF.1 hF.2.1 d_M_far_274 (lv_at hl 0 rfl) ?_
            refine lv_if_eq (tgt := 291) hF.1 hF.2.1 d_M_far_276 (by decide) (fun _ => ?_) (fun h => absurd (by decide) h)
            refine lv_iinc (k := 2) (v := (nI (q + 1))) hF.1 hF.2.1 d_M_far_291 hl rfl (iinc_p (q)) (by decide) rfl (fun ls hl => ?_)
            have hl : lv_has ls 8 [(5, .int (nI (q + 1))), (7, .int (nI (0))), (6, .int (nI (0))), (4, .int (nI (k))), (0, .ref (ad (104))), (1, .int (nI (w))), (2, .int (nI (i))), (3, .int (nI (j)))] := hl
            refine lv_goto (tgt := 171) hF.1 hF.2.1 d_M_far_294 (by decide) ?_
            rw [show bf_s T u.1 rho q k = rho by unfold bf_s; dsimp only; rw [if_neg yc, if_neg xm, if_neg (show ¬ (q / 9 < T.length ∧ q % 9 < u.1.length) from fun z => xm z.1)]] at hs
            exact ih (q + 1) k _ _ H locs ls (by omega) hk hfw hs.1 hs.2 K (lv_sub hl [0, 3, 4, 5, 6, 7] rfl) hZ
          · have yc : q % 9 < u.1.length := Nat.lt_of_not_le (fun z => yc (nI_le z (by omega)))
            refine lv_iconst (v := (nI (1))) hF.1 hF.2.1 d_M_far_226 (by decide) ?_
            refine lv_goto (tgt := 231) hF.1 hF.2.1 d_M_far_227 (by decide) ?_
            refine lv_istore hF.1 hF.2.1 d_M_far_231 hl (by decide) rfl (fun ls hl => ?_)
            have hl : lv_has ls 8 [(7, .int (nI (1))), (6, .int (nI (0))), (5, .int (nI (q))), (4, .int (nI (k))), (0, .ref (ad (104))), (1, .int (nI (w))), (2, .int (nI (i))), (3, .int (nI (j)))] := hl
            refine lv_iload hF.1 hF.2.1 d_M_far_233 (lv_at hl 1 rfl) ?_
            refine lv_if_eq (tgt := 256) hF.1 hF.2.1 d_M_far_235 (by decide) (fun _ => ?_) (fun h => absurd (by decide) h)
            refine lv_iload hF.1 hF.2.1 d_M_far_256 (lv_at hl 1 rfl) ?_
            refine lv_if_eq (tgt := 274) hF.1 hF.2.1 d_M_far_258 (by decide) (fun _ => ?_) (fun h => absurd (by decide) h)
            refine lv_iload hF.1 hF.2.1 d_M_far_274 (lv_at hl 0 rfl) ?_
            refine lv_if_eq (tgt := 291) hF.1 hF.2.1 d_M_far_276 (by decide) (fun h => absurd h (by decide)) (fun _ => ?_)
            refine lv_aload_n hF.1 hF.2.1 d_M_far_279 rfl (lv_at hl 4 rfl) ?_
            refine lv_iload hF.1 hF.2.1 d_M_far_280 (lv_at hl 2 rfl) ?_
            refine lv_iconst (v := (nI (1))) hF.1 hF.2.1 d_M_far_282 (by decide) ?_
            refine lv_iadd hF.1 hF.2.1 d_M_far_283 ?_
            refine z_top (nI_add (q) (1)) ?_
            refine lv_iload hF.1 hF.2.1 d_M_far_284 (lv_at hl 3 rfl) ?_
            refine lv_iconst (v := (nI (1))) hF.1 hF.2.1 d_M_far_286 (by decide) ?_
            refine lv_iadd hF.1 hF.2.1 d_M_far_287 ?_
            refine z_top (nI_add (k) (1)) ?_
            refine z_callv hZ (z_run cw_M_60 hF hZ (104) (c_M_reach l hN h hfw hb (q := q + 1) (k := k + 1) (by omega) (by omega)) (by decide) (by omega) q1 rfl rfl hl.1 rfl (Nat.le_of_ble_eq_true rfl) d_M_far_288) (fun ek2 H locs hfwrh1 hZ => ?_)
            have q1rh1 := (hfwrh1.1 104 (by omega)).trans p1
            have hbrh1 := bf_r_lt (p := q + 1) (c := k + 1) hb (by omega)
            refine lv_iinc (k := 2) (v := (nI (q + 1))) hF.1 hF.2.1 d_M_far_291 hl rfl (iinc_p (q)) (by decide) rfl (fun ls hl => ?_)
            have hl : lv_has ls 8 [(5, .int (nI (q + 1))), (7, .int (nI (1))), (6, .int (nI (0))), (4, .int (nI (k))), (0, .ref (ad (104))), (1, .int (nI (w))), (2, .int (nI (i))), (3, .int (nI (j)))] := hl
            refine lv_goto (tgt := 171) hF.1 hF.2.1 d_M_far_294 (by decide) ?_
            rw [show bf_s T u.1 rho q k = (bf_r rho (q + 1) (k + 1)) by unfold bf_s; dsimp only; rw [if_pos yc, if_neg xm, if_neg (show ¬ (q / 9 < T.length ∧ q % 9 < u.1.length) from fun z => xm z.1)]] at hs
            exact ih (q + 1) k _ _ H locs ls (by omega) hk hfwrh1 hs.1 hs.2 K (lv_sub hl [0, 3, 4, 5, 6, 7] rfl) hZ
        · have xm : q / 9 < T.length := Nat.lt_of_not_le (fun z => xm (nI_le z (by omega)))
          refine lv_iconst (v := (nI (1))) hF.1 hF.2.1 d_M_far_205 (by decide) ?_
          refine lv_goto (tgt := 210) hF.1 hF.2.1 d_M_far_206 (by decide) ?_
          refine lv_istore hF.1 hF.2.1 d_M_far_210 hl (by decide) rfl (fun ls hl => ?_)
          have hl : lv_has ls 8 [(6, .int (nI (1))), (5, .int (nI (q))), (4, .int (nI (k))), (0, .ref (ad (104))), (1, .int (nI (w))), (2, .int (nI (i))), (3, .int (nI (j)))] := hl
          refine lv_iload hF.1 hF.2.1 d_M_far_212 (lv_at hl 1 rfl) ?_
          refine lv_bipush (v := (nI (9))) hF.1 hF.2.1 d_M_far_214 (by decide) ?_
          refine lv_irem hF.1 hF.2.1 d_M_far_216 (by decide) ?_
          refine z_top (y := (nI (q % 9))) (pk_rem (by omega) (by omega) (by omega)) ?_
          refine lv_aload_n hF.1 hF.2.1 d_M_far_217 rfl (lv_at hl 3 rfl) ?_
          refine gf_M_16 hF hZ (104) (by omega) q1 rfl d_M_far_218 ?_
          refine lv_iload_n hF.1 hF.2.1 d_M_far_221 rfl (lv_at hl 4 rfl) ?_
          refine z_iald hF hZ (107) (by omega) q7 (w) (by omega) (by omega) d_M_far_222 ?_
          refine z_top (y := (nI (u.1.length))) us ?_
          refine lv_icmp_ge (tgt := 230) hF.1 hF.2.1 d_M_far_223 (by decide) (fun yc => ?_) (fun yc => ?_)
          · have yc : ¬ q % 9 < u.1.length := by have := (nI_leI (by omega) (by omega)).mp yc; omega
            refine lv_iconst (v := (nI (0))) hF.1 hF.2.1 d_M_far_230 (by decide) ?_
            refine lv_istore hF.1 hF.2.1 d_M_far_231 hl (by decide) rfl (fun ls hl => ?_)
            have hl : lv_has ls 8 [(7, .int (nI (0))), (6, .int (nI (1))), (5, .int (nI (q))), (4, .int (nI (k))), (0, .ref (ad (104))), (1, .int (nI (w))), (2, .int (nI (i))), (3, .int (nI (j)))] := hl
            refine lv_iload hF.1 hF.2.1 d_M_far_233 (lv_at hl 1 rfl) ?_
            refine lv_if_eq (tgt := 256) hF.1 hF.2.1 d_M_far_235 (by decide) (fun h => absurd h (by decide)) (fun _ => ?_)
            refine lv_iload hF.1 hF.2.1 d_M_far_238 (lv_at hl 0 rfl) ?_
            refine lv_if_eq (tgt := 256) hF.1 hF.2.1 d_M_far_240 (by decide) (fun _ => ?_) (fun h => absurd (by decide) h)
            refine lv_iload hF.1 hF.2.1 d_M_far_256 (lv_at hl 1 rfl) ?_
            refine lv_if_eq (tgt := 274) hF.1 hF.2.1 d_M_far_258 (by decide) (fun h => absurd h (by decide)) (fun _ => ?_)
            refine lv_aload_n hF.1 hF.2.1 d_M_far_261 rfl (lv_at hl 4 rfl) ?_
            refine lv_iload hF.1 hF.2.1 d_M_far_262 (lv_at hl 2 rfl) ?_
            refine lv_bipush (v := (nI (9))) hF.1 hF.2.1 d_M_far_264 (by decide) ?_
            refine lv_iadd hF.1 hF.2.1 d_M_far_266 ?_
            refine z_top (nI_add (q) (9)) ?_
            refine lv_iload hF.1 hF.2.1 d_M_far_267 (lv_at hl 3 rfl) ?_
            refine lv_iconst (v := (nI (1))) hF.1 hF.2.1 d_M_far_269 (by decide) ?_
            refine lv_iadd hF.1 hF.2.1 d_M_far_270 ?_
            refine z_top (nI_add (k) (1)) ?_
            refine z_callv hZ (z_run cw_M_60 hF hZ (104) (c_M_reach l hN h hfw hb (q := q + 9) (k := k + 1) (by omega) (by omega)) (by decide) (by omega) q1 rfl rfl hl.1 rfl (Nat.le_of_ble_eq_true rfl) d_M_far_271) (fun ek4 H locs hfwrh3 hZ => ?_)
            have q1rh3 := (hfwrh3.1 104 (by omega)).trans p1
            have hbrh3 := bf_r_lt (p := q + 9) (c := k + 1) hb (by omega)
            refine lv_iload hF.1 hF.2.1 d_M_far_274 (lv_at hl 0 rfl) ?_
            refine lv_if_eq (tgt := 291) hF.1 hF.2.1 d_M_far_276 (by decide) (fun _ => ?_) (fun h => absurd (by decide) h)
            refine lv_iinc (k := 2) (v := (nI (q + 1))) hF.1 hF.2.1 d_M_far_291 hl rfl (iinc_p (q)) (by decide) rfl (fun ls hl => ?_)
            have hl : lv_has ls 8 [(5, .int (nI (q + 1))), (7, .int (nI (0))), (6, .int (nI (1))), (4, .int (nI (k))), (0, .ref (ad (104))), (1, .int (nI (w))), (2, .int (nI (i))), (3, .int (nI (j)))] := hl
            refine lv_goto (tgt := 171) hF.1 hF.2.1 d_M_far_294 (by decide) ?_
            rw [show bf_s T u.1 rho q k = (bf_r rho (q + 9) (k + 1)) by unfold bf_s; dsimp only; rw [if_neg yc, if_pos xm, if_neg (show ¬ (q / 9 < T.length ∧ q % 9 < u.1.length) from fun z => yc z.2)]] at hs
            exact ih (q + 1) k _ _ H locs ls (by omega) hk hfwrh3 hs.1 hs.2 K (lv_sub hl [0, 3, 4, 5, 6, 7] rfl) hZ
          · have yc : q % 9 < u.1.length := Nat.lt_of_not_le (fun z => yc (nI_le z (by omega)))
            refine lv_iconst (v := (nI (1))) hF.1 hF.2.1 d_M_far_226 (by decide) ?_
            refine lv_goto (tgt := 231) hF.1 hF.2.1 d_M_far_227 (by decide) ?_
            refine lv_istore hF.1 hF.2.1 d_M_far_231 hl (by decide) rfl (fun ls hl => ?_)
            have hl : lv_has ls 8 [(7, .int (nI (1))), (6, .int (nI (1))), (5, .int (nI (q))), (4, .int (nI (k))), (0, .ref (ad (104))), (1, .int (nI (w))), (2, .int (nI (i))), (3, .int (nI (j)))] := hl
            refine lv_iload hF.1 hF.2.1 d_M_far_233 (lv_at hl 1 rfl) ?_
            refine lv_if_eq (tgt := 256) hF.1 hF.2.1 d_M_far_235 (by decide) (fun h => absurd h (by decide)) (fun _ => ?_)
            refine lv_iload hF.1 hF.2.1 d_M_far_238 (lv_at hl 0 rfl) ?_
            refine lv_if_eq (tgt := 256) hF.1 hF.2.1 d_M_far_240 (by decide) (fun h => absurd h (by decide)) (fun _ => ?_)
            refine lv_aload_n hF.1 hF.2.1 d_M_far_243 rfl (lv_at hl 4 rfl) ?_
            refine lv_iload hF.1 hF.2.1 d_M_far_244 (lv_at hl 2 rfl) ?_
            refine lv_bipush (v := (nI (10))) hF.1 hF.2.1 d_M_far_246 (by decide) ?_
            refine lv_iadd hF.1 hF.2.1 d_M_far_248 ?_
            refine z_top (nI_add (q) (10)) ?_
            refine lv_iload hF.1 hF.2.1 d_M_far_249 (lv_at hl 3 rfl) ?_
            refine lv_iconst (v := (nI (1))) hF.1 hF.2.1 d_M_far_251 (by decide) ?_
            refine lv_iadd hF.1 hF.2.1 d_M_far_252 ?_
            refine z_top (nI_add (k) (1)) ?_
            refine z_callv hZ (z_run cw_M_60 hF hZ (104) (c_M_reach l hN h hfw hb (q := q + 10) (k := k + 1) (by omega) (by omega)) (by decide) (by omega) q1 rfl rfl hl.1 rfl (Nat.le_of_ble_eq_true rfl) d_M_far_253) (fun ek6 H locs hfwrh5 hZ => ?_)
            have q1rh5 := (hfwrh5.1 104 (by omega)).trans p1
            have hbrh5 := bf_r_lt (p := q + 10) (c := k + 1) hb (by omega)
            refine lv_iload hF.1 hF.2.1 d_M_far_256 (lv_at hl 1 rfl) ?_
            refine lv_if_eq (tgt := 274) hF.1 hF.2.1 d_M_far_258 (by decide) (fun h => absurd h (by decide)) (fun _ => ?_)
            refine lv_aload_n hF.1 hF.2.1 d_M_far_261 rfl (lv_at hl 4 rfl) ?_
            refine lv_iload hF.1 hF.2.1 d_M_far_262 (lv_at hl 2 rfl) ?_
            refine lv_bipush (v := (nI (9))) hF.1 hF.2.1 d_M_far_264 (by decide) ?_
            refine lv_iadd hF.1 hF.2.1 d_M_far_266 ?_
            refine z_top (nI_add (q) (9)) ?_
            refine lv_iload hF.1 hF.2.1 d_M_far_267 (lv_at hl 3 rfl) ?_
            refine lv_iconst (v := (nI (1))) hF.1 hF.2.1 d_M_far_269 (by decide) ?_
            refine lv_iadd hF.1 hF.2.1 d_M_far_270 ?_
            refine z_top (nI_add (k) (1)) ?_
            refine z_callv hZ (z_run cw_M_60 hF hZ (104) (c_M_reach l hN h hfwrh5 hbrh5 (q := q + 9) (k := k + 1) (by omega) (by omega)) (by decide) (by omega) q1rh5 rfl rfl hl.1 rfl (Nat.le_of_ble_eq_true rfl) d_M_far_271) (fun ek8 H locs hfwrh7 hZ => ?_)
            have q1rh7 := (hfwrh7.1 104 (by omega)).trans p1
            have hbrh7 := bf_r_lt (p := q + 9) (c := k + 1) hbrh5 (by omega)
            refine lv_iload hF.1 hF.2.1 d_M_far_274 (lv_at hl 0 rfl) ?_
            refine lv_if_eq (tgt := 291) hF.1 hF.2.1 d_M_far_276 (by decide) (fun h => absurd h (by decide)) (fun _ => ?_)
            refine lv_aload_n hF.1 hF.2.1 d_M_far_279 rfl (lv_at hl 4 rfl) ?_
            refine lv_iload hF.1 hF.2.1 d_M_far_280 (lv_at hl 2 rfl) ?_
            refine lv_iconst (v := (nI (1))) hF.1 hF.2.1 d_M_far_282 (by decide) ?_
            refine lv_iadd hF.1 hF.2.1 d_M_far_283 ?_
            refine z_top (nI_add (q) (1)) ?_
            refine lv_iload hF.1 hF.2.1 d_M_far_284 (lv_at hl 3 rfl) ?_
            refine lv_iconst (v := (nI (1))) hF.1 hF.2.1 d_M_far_286 (by decide) ?_
            refine lv_iadd hF.1 hF.2.1 d_M_far_287 ?_
            refine z_top (nI_add (k) (1)) ?_
            refine z_callv hZ (z_run cw_M_60 hF hZ (104) (c_M_reach l hN h hfwrh7 hbrh7 (q := q + 1) (k := k + 1) (by omega) (by omega)) (by decide) (by omega) q1rh7 rfl rfl hl.1 rfl (Nat.le_of_ble_eq_true rfl) d_M_far_288) (fun ek10 H locs hfwrh9 hZ => ?_)
            have q1rh9 := (hfwrh9.1 104 (by omega)).trans p1
            have hbrh9 := bf_r_lt (p := q + 1) (c := k + 1) hbrh7 (by omega)
            refine lv_iinc (k := 2) (v := (nI (q + 1))) hF.1 hF.2.1 d_M_far_291 hl rfl (iinc_p (q)) (by decide) rfl (fun ls hl => ?_)
            have hl : lv_has ls 8 [(5, .int (nI (q + 1))), (7, .int (nI (1))), (6, .int (nI (1))), (4, .int (nI (k))), (0, .ref (ad (104))), (1, .int (nI (w))), (2, .int (nI (i))), (3, .int (nI (j)))] := hl
            refine lv_goto (tgt := 171) hF.1 hF.2.1 d_M_far_294 (by decide) ?_
            rw [show bf_s T u.1 rho q k = (bf_r (bf_r (bf_r rho (q + 10) (k + 1)) (q + 9) (k + 1)) (q + 1) (k + 1)) by unfold bf_s; dsimp only; rw [if_pos yc, if_pos xm, if_pos (⟨xm, yc⟩ : q / 9 < T.length ∧ q % 9 < u.1.length)]] at hs
            exact ih (q + 1) k _ _ H locs ls (by omega) hk hfwrh9 hs.1 hs.2 K (lv_sub hl [0, 3, 4, 5, 6, 7] rfl) hZ
      · have z : rho q ≠ k + 1 := fun y => z ((iv_nI hqb (by omega)).mpr y)
        refine lv_goto (tgt := 291) hF.1 hF.2.1 d_M_far_190 (by decide) ?_
        refine lv_iinc (k := 0) (v := (nI (q + 1))) hF.1 hF.2.1 d_M_far_291 hl rfl (iinc_p (q)) (by decide) rfl (fun ls hl => ?_)
        have hl : lv_has ls 8 [(5, .int (nI (q + 1))), (4, .int (nI (k))), (0, .ref (ad (104))), (1, .int (nI (w))), (2, .int (nI (i))), (3, .int (nI (j)))] := hl
        refine lv_goto (tgt := 171) hF.1 hF.2.1 d_M_far_294 (by decide) ?_
        exact ih (q + 1) k rho en1 H locs ls (by omega) hk hfw hok (bf_2n h2 z) K hl hZ
  have pass1 : ∀ (n q k : Nat) (rho : Nat → Nat) (en1 : Nat → va_E) (H : Heap) (locs : List Loc) (ls : Array Slot), q + n = 99 → k < 19 → fw G en en1 rho → bf_ok T u.1 ds (k + 1) rho → bf_1 T u.1 ds k q rho → (∀ (rho : Nat → Nat) (en1 : Nat → va_E) (H : Heap) (locs : List Loc) (ls : Array Slot), fw G en en1 rho → bf_ok T u.1 ds (k + 1) rho → bf_1 T u.1 ds k 99 rho → lv_has ls 8 [(5, .int (nI (99))), (4, .int (nI (k))), (0, .ref (ad (104))), (1, .int (nI (w))), (2, .int (nI (i))), (3, .int (nI (j)))] → zH G ad en1 N s H locs → W p l e (zR 2) s m ([.ref (ad (104)), .int (nI (w)), .int (nI (i)), .int (nI (j))] : List Value).toArray below meth c H locs 0 0 (MQ below (zQi G ad N (fun v en1 => v = nI (ed_d T u.1 i j) ∧ (∃ f : Nat → Int32, en1 109 = .inl (zI G, 99, .inl f)) ∧ ∀ r, r ≠ 109 → en1 r = en r)) ([.ref (ad (104)), .int (nI (w)), .int (nI (i)), .int (nI (j))] : List Value).toArray s 0 0 (zA G)) (F0 m 141 ls [])) → lv_has ls 8 [(5, .int (nI (q))), (4, .int (nI (k))), (0, .ref (ad (104))), (1, .int (nI (w))), (2, .int (nI (i))), (3, .int (nI (j)))] → zH G ad en1 N s H locs → W p l e (zR 2) s m ([.ref (ad (104)), .int (nI (w)), .int (nI (i)), .int (nI (j))] : List Value).toArray below meth c H locs 0 0 (MQ below (zQi G ad N (fun v en1 => v = nI (ed_d T u.1 i j) ∧ (∃ f : Nat → Int32, en1 109 = .inl (zI G, 99, .inl f)) ∧ ∀ r, r ≠ 109 → en1 r = en r)) ([.ref (ad (104)), .int (nI (w)), .int (nI (i)), .int (nI (j))] : List Value).toArray s 0 0 (zA G)) (F0 m 49 ls []) := by
    intro n
    induction n with
    | zero =>
      intro q k rho en1 H locs ls hin hk hfw hok h2 K hl hZ
      have hq : q = 99 := by omega
      subst hq
      refine lv_iload hF.1 hF.2.1 d_M_far_49 (lv_at hl 0 rfl) ?_
      refine lv_bipush (v := (nI (99))) hF.1 hF.2.1 d_M_far_51 (by decide) ?_
      refine lv_icmp_ge (tgt := 141) hF.1 hF.2.1 d_M_far_53 (by decide) (fun _ => ?_) (fun h => absurd (nI_le (Nat.le_refl _) (by omega)) h)
      exact K rho en1 H locs ls hfw hok h2 hl hZ
    | succ n ih =>
      intro q k rho en1 H locs ls hin hk hfw hok h2 K hl hZ
      have hb := bf_lt hok (by omega)
      have hqb := hb q (by omega)
      have hfr := hfw.1
      obtain ⟨f, e9, hf⟩ := hfw.2
      have q1 := (hfr 104 (by omega)).trans p1
      have q4 := (hfr 105 (by omega)).trans p4
      have q6 := (hfr 106 (by omega)).trans p6
      have q7 := (hfr 107 (by omega)).trans p7
      refine lv_iload hF.1 hF.2.1 d_M_far_49 (lv_at hl 0 rfl) ?_
      refine lv_bipush (v := (nI (99))) hF.1 hF.2.1 d_M_far_51 (by decide) ?_
      refine lv_icmp_ge (tgt := 141) hF.1 hF.2.1 d_M_far_53 (by decide) (fun h => absurd h (nI_ge (show q < 99 by omega) (by omega))) (fun _ => ?_)
      refine lv_iload hF.1 hF.2.1 d_M_far_56 (lv_at hl 0 rfl) ?_
      refine lv_bipush (v := (nI (9))) hF.1 hF.2.1 d_M_far_58 (by decide) ?_
      refine lv_idiv hF.1 hF.2.1 d_M_far_60 (by decide) ?_
      refine z_top (y := (nI (q / 9))) (pk_div (by omega) (by omega) (by omega)) ?_
      refine lv_istore hF.1 hF.2.1 d_M_far_61 hl (by decide) rfl (fun ls hl => ?_)
      have hl : lv_has ls 8 [(6, .int (nI (q / 9))), (5, .int (nI (q))), (4, .int (nI (k))), (0, .ref (ad (104))), (1, .int (nI (w))), (2, .int (nI (i))), (3, .int (nI (j)))] := hl
      refine lv_iload hF.1 hF.2.1 d_M_far_63 (lv_at hl 1 rfl) ?_
      refine lv_bipush (v := (nI (9))) hF.1 hF.2.1 d_M_far_65 (by decide) ?_
      refine lv_irem hF.1 hF.2.1 d_M_far_67 (by decide) ?_
      refine z_top (y := (nI (q % 9))) (pk_rem (by omega) (by omega) (by omega)) ?_
      refine lv_istore hF.1 hF.2.1 d_M_far_68 hl (by decide) rfl (fun ls hl => ?_)
      have hl : lv_has ls 8 [(7, .int (nI (q % 9))), (6, .int (nI (q / 9))), (5, .int (nI (q))), (4, .int (nI (k))), (0, .ref (ad (104))), (1, .int (nI (w))), (2, .int (nI (i))), (3, .int (nI (j)))] := hl
      refine lv_aload_n hF.1 hF.2.1 d_M_far_70 rfl (lv_at hl 4 rfl) ?_
      refine gf_M_22 hF hZ (104) (by omega) q1 rfl d_M_far_71 ?_
      refine lv_iload hF.1 hF.2.1 d_M_far_74 (lv_at hl 2 rfl) ?_
      refine z_iald hF hZ (109) (by omega) e9 (q) (by omega) (by omega) d_M_far_76 ?_
      refine z_top (y := (iv (rho q))) (hf q (by omega)) ?_
      refine lv_iload hF.1 hF.2.1 d_M_far_77 (lv_at hl 3 rfl) ?_
      refine lv_icmp_ne (tgt := 135) hF.1 hF.2.1 d_M_far_79 (by decide) (fun z => ?_) (fun z => ?_)
      · have z1 : rho q ≠ k + 1 := fun y => z ((iv_nI hqb (by omega)).mpr y)
        refine lv_iinc (k := 2) (v := (nI (q + 1))) hF.1 hF.2.1 d_M_far_135 hl rfl (iinc_p (q)) (by decide) rfl (fun ls hl => ?_)
        have hl : lv_has ls 8 [(5, .int (nI (q + 1))), (7, .int (nI (q % 9))), (6, .int (nI (q / 9))), (4, .int (nI (k))), (0, .ref (ad (104))), (1, .int (nI (w))), (2, .int (nI (i))), (3, .int (nI (j)))] := hl
        refine lv_goto (tgt := 49) hF.1 hF.2.1 d_M_far_138 (by decide) ?_
        exact ih (q + 1) k rho en1 H locs ls (by omega) hk hfw hok (bf_1n h2 (fun z => z1 z.1)) K (lv_sub hl [0, 3, 4, 5, 6, 7] rfl) hZ
      · have z : rho q = k + 1 := (iv_nI hqb (by omega)).mp z
        refine lv_iload hF.1 hF.2.1 d_M_far_82 (lv_at hl 1 rfl) ?_
        refine lv_aload_n hF.1 hF.2.1 d_M_far_84 rfl (lv_at hl 4 rfl) ?_
        refine gf_M_29 hF hZ (104) (by omega) q1 rfl d_M_far_85 ?_
        refine lv_icmp_ge (tgt := 135) hF.1 hF.2.1 d_M_far_88 (by decide) (fun xm => ?_) (fun xm => ?_)
        · have xm := (nI_leI (by omega) (by omega)).mp xm
          refine lv_iinc (k := 2) (v := (nI (q + 1))) hF.1 hF.2.1 d_M_far_135 hl rfl (iinc_p (q)) (by decide) rfl (fun ls hl => ?_)
          have hl : lv_has ls 8 [(5, .int (nI (q + 1))), (7, .int (nI (q % 9))), (6, .int (nI (q / 9))), (4, .int (nI (k))), (0, .ref (ad (104))), (1, .int (nI (w))), (2, .int (nI (i))), (3, .int (nI (j)))] := hl
          refine lv_goto (tgt := 49) hF.1 hF.2.1 d_M_far_138 (by decide) ?_
          exact ih (q + 1) k rho en1 H locs ls (by omega) hk hfw hok (bf_1n h2 (fun z => absurd z.2.1 (by omega))) K (lv_sub hl [0, 3, 4, 5, 6, 7] rfl) hZ
        · have xm : q / 9 < T.length := Nat.lt_of_not_le (fun z => xm (nI_le z (by omega)))
          refine lv_iload hF.1 hF.2.1 d_M_far_91 (lv_at hl 0 rfl) ?_
          refine lv_aload_n hF.1 hF.2.1 d_M_far_93 rfl (lv_at hl 4 rfl) ?_
          refine gf_M_16 hF hZ (104) (by omega) q1 rfl d_M_far_94 ?_
          refine lv_iload_n hF.1 hF.2.1 d_M_far_97 rfl (lv_at hl 5 rfl) ?_
          refine z_iald hF hZ (107) (by omega) q7 (w) (by omega) (by omega) d_M_far_98 ?_
          refine z_top (y := (nI (u.1.length))) us ?_
          refine lv_icmp_ge (tgt := 135) hF.1 hF.2.1 d_M_far_99 (by decide) (fun yc => ?_) (fun yc => ?_)
          · have yc := (nI_leI (by omega) (by omega)).mp yc
            refine lv_iinc (k := 2) (v := (nI (q + 1))) hF.1 hF.2.1 d_M_far_135 hl rfl (iinc_p (q)) (by decide) rfl (fun ls hl => ?_)
            have hl : lv_has ls 8 [(5, .int (nI (q + 1))), (7, .int (nI (q % 9))), (6, .int (nI (q / 9))), (4, .int (nI (k))), (0, .ref (ad (104))), (1, .int (nI (w))), (2, .int (nI (i))), (3, .int (nI (j)))] := hl
            refine lv_goto (tgt := 49) hF.1 hF.2.1 d_M_far_138 (by decide) ?_
            exact ih (q + 1) k rho en1 H locs ls (by omega) hk hfw hok (bf_1n h2 (fun z => absurd z.2.2.1 (by omega))) K (lv_sub hl [0, 3, 4, 5, 6, 7] rfl) hZ
          · have yc : q % 9 < u.1.length := Nat.lt_of_not_le (fun z => yc (nI_le z (by omega)))
            have z1 := p26 (q / 9)
            have z2 := u26 (q % 9)
            refine lv_aload_n hF.1 hF.2.1 d_M_far_102 rfl (lv_at hl 4 rfl) ?_
            refine gf_M_7 hF hZ (104) (by omega) q1 rfl d_M_far_103 ?_
            refine lv_iload hF.1 hF.2.1 d_M_far_106 (lv_at hl 1 rfl) ?_
            refine z_iald hF hZ (105) (by omega) q4 (q / 9) (by omega) (by omega) d_M_far_108 ?_
            refine z_top (y := (nI (T.getD (q / 9) 0))) (p5 _ xm) ?_
            refine lv_aload_n hF.1 hF.2.1 d_M_far_109 rfl (lv_at hl 4 rfl) ?_
            refine gf_M_13 hF hZ (104) (by omega) q1 rfl d_M_far_110 ?_
            refine lv_bipush (v := (nI (8))) hF.1 hF.2.1 d_M_far_113 (by decide) ?_
            refine lv_iload_n hF.1 hF.2.1 d_M_far_115 rfl (lv_at hl 5 rfl) ?_
            refine lv_imul hF.1 hF.2.1 d_M_far_116 ?_
            refine z_top (pk_mul (8) (w)) ?_
            refine lv_iload hF.1 hF.2.1 d_M_far_117 (lv_at hl 0 rfl) ?_
            refine lv_iadd hF.1 hF.2.1 d_M_far_119 ?_
            refine z_top (nI_add ((8) * (w)) (q % 9)) ?_
            refine z_iald hF hZ (106) (by omega) q6 ((8) * (w) + q % 9) (by omega) (by omega) d_M_far_120 ?_
            refine z_top (y := (nI (u.1.getD (q % 9) 0))) (ul _ yc) ?_
            refine lv_icmp_ne (tgt := 135) hF.1 hF.2.1 d_M_far_121 (by decide) (fun ee => ?_) (fun ee => ?_)
            · have ee : ¬ T.getD (q / 9) 0 = u.1.getD (q % 9) 0 := fun y => ee (by rw [y])
              refine lv_iinc (k := 2) (v := (nI (q + 1))) hF.1 hF.2.1 d_M_far_135 hl rfl (iinc_p (q)) (by decide) rfl (fun ls hl => ?_)
              have hl : lv_has ls 8 [(5, .int (nI (q + 1))), (7, .int (nI (q % 9))), (6, .int (nI (q / 9))), (4, .int (nI (k))), (0, .ref (ad (104))), (1, .int (nI (w))), (2, .int (nI (i))), (3, .int (nI (j)))] := hl
              refine lv_goto (tgt := 49) hF.1 hF.2.1 d_M_far_138 (by decide) ?_
              exact ih (q + 1) k rho en1 H locs ls (by omega) hk hfw hok (bf_1n h2 (fun z => ee z.2.2.2)) K (lv_sub hl [0, 3, 4, 5, 6, 7] rfl) hZ
            · have ee := (nI_eq (by omega) (by omega)).mp ee
              have hs := bf_1s u8 p2 hok h2 (by omega) z xm yc ee
              refine lv_aload_n hF.1 hF.2.1 d_M_far_124 rfl (lv_at hl 4 rfl) ?_
              refine lv_iload hF.1 hF.2.1 d_M_far_125 (lv_at hl 2 rfl) ?_
              refine lv_bipush (v := (nI (10))) hF.1 hF.2.1 d_M_far_127 (by decide) ?_
              refine lv_iadd hF.1 hF.2.1 d_M_far_129 ?_
              refine z_top (nI_add (q) (10)) ?_
              refine lv_iload hF.1 hF.2.1 d_M_far_130 (lv_at hl 3 rfl) ?_
              refine z_callv hZ (z_run cw_M_60 hF hZ (104) (c_M_reach l hN h hfw hb (q := q + 10) (k := k) (by omega) (by omega)) (by decide) (by omega) q1 rfl rfl hl.1 rfl (Nat.le_of_ble_eq_true rfl) d_M_far_132) (fun en2 H locs hfw2 hZ => ?_)
              refine lv_iinc (k := 2) (v := (nI (q + 1))) hF.1 hF.2.1 d_M_far_135 hl rfl (iinc_p (q)) (by decide) rfl (fun ls hl => ?_)
              have hl : lv_has ls 8 [(5, .int (nI (q + 1))), (7, .int (nI (q % 9))), (6, .int (nI (q / 9))), (4, .int (nI (k))), (0, .ref (ad (104))), (1, .int (nI (w))), (2, .int (nI (i))), (3, .int (nI (j)))] := hl
              refine lv_goto (tgt := 49) hF.1 hF.2.1 d_M_far_138 (by decide) ?_
              exact ih (q + 1) k _ en2 H locs ls (by omega) hk hfw2 hs.1 hs.2 K (lv_sub hl [0, 3, 4, 5, 6, 7] rfl) hZ
  have main : ∀ (n k : Nat) (rho : Nat → Nat) (en1 : Nat → va_E) (H : Heap) (locs : List Loc) (ls : Array Slot), k + n = 19 → fw G en en1 rho → bf_ok T u.1 ds (k + 1) rho → bf_1 T u.1 ds k 0 rho → lv_has ls 8 [(4, .int (nI (k))), (0, .ref (ad (104))), (1, .int (nI (w))), (2, .int (nI (i))), (3, .int (nI (j)))] → zH G ad en1 N s H locs → W p l e (zR 2) s m ([.ref (ad (104)), .int (nI (w)), .int (nI (i)), .int (nI (j))] : List Value).toArray below meth c H locs 0 0 (MQ below (zQi G ad N (fun v en1 => v = nI (ed_d T u.1 i j) ∧ (∃ f : Nat → Int32, en1 109 = .inl (zI G, 99, .inl f)) ∧ ∀ r, r ≠ 109 → en1 r = en r)) ([.ref (ad (104)), .int (nI (w)), .int (nI (i)), .int (nI (j))] : List Value).toArray s 0 0 (zA G)) (F0 m 39 ls []) := by
    intro n
    induction n with
    | zero =>
      intro k rho en1 H locs ls hin hfw hok h1 hl hZ
      obtain ⟨x, hx, -⟩ := h1
      have := hx.2.2
      omega
    | succ n ih =>
      intro k rho en1 H locs ls hin hfw hok h1 hl hZ
      refine lv_iload hF.1 hF.2.1 d_M_far_39 (lv_at hl 0 rfl) ?_
      refine lv_bipush (v := (nI (18))) hF.1 hF.2.1 d_M_far_41 (by decide) ?_
      refine lv_icmp_gt (tgt := 303) hF.1 hF.2.1 d_M_far_43 (by decide) (fun h => absurd h (nI_nlt (show k ≤ 18 by omega) (by omega))) (fun _ => ?_)
      refine lv_iconst (v := (nI (0))) hF.1 hF.2.1 d_M_far_46 (by decide) ?_
      refine lv_istore hF.1 hF.2.1 d_M_far_47 hl (by decide) rfl (fun ls hl => ?_)
      have hl : lv_has ls 8 [(5, .int (nI (0))), (4, .int (nI (k))), (0, .ref (ad (104))), (1, .int (nI (w))), (2, .int (nI (i))), (3, .int (nI (j)))] := hl
      refine pass1 99 0 k rho en1 H locs ls (by omega) (by omega) hfw hok h1 (fun rho en1 H locs ls hfw hok h1 hl hZ => ?_) hl hZ
      have hb := bf_lt hok (by omega)
      have hm := bf_mid u8 p2 hok h1
      have htb := hb (9 * T.length + u.1.length) (by omega)
      have hfr := hfw.1
      obtain ⟨f, e9, hf⟩ := hfw.2
      have q1 := (hfr 104 (by omega)).trans p1
      have q4 := (hfr 105 (by omega)).trans p4
      have q6 := (hfr 106 (by omega)).trans p6
      have q7 := (hfr 107 (by omega)).trans p7
      refine lv_aload_n hF.1 hF.2.1 d_M_far_141 rfl (lv_at hl 2 rfl) ?_
      refine gf_M_22 hF hZ (104) (by omega) q1 rfl d_M_far_142 ?_
      refine lv_bipush (v := (nI (9))) hF.1 hF.2.1 d_M_far_145 (by decide) ?_
      refine lv_aload_n hF.1 hF.2.1 d_M_far_147 rfl (lv_at hl 2 rfl) ?_
      refine gf_M_29 hF hZ (104) (by omega) q1 rfl d_M_far_148 ?_
      refine lv_imul hF.1 hF.2.1 d_M_far_151 ?_
      refine z_top (pk_mul (9) (T.length)) ?_
      refine lv_aload_n hF.1 hF.2.1 d_M_far_152 rfl (lv_at hl 2 rfl) ?_
      refine gf_M_16 hF hZ (104) (by omega) q1 rfl d_M_far_153 ?_
      refine lv_iload_n hF.1 hF.2.1 d_M_far_156 rfl (lv_at hl 3 rfl) ?_
      refine z_iald hF hZ (107) (by omega) q7 (w) (by omega) (by omega) d_M_far_157 ?_
      refine z_top (y := (nI (u.1.length))) us ?_
      refine lv_iadd hF.1 hF.2.1 d_M_far_158 ?_
      refine z_top (nI_add ((9) * (T.length)) (u.1.length)) ?_
      refine z_iald hF hZ (109) (by omega) e9 ((9) * (T.length) + u.1.length) (by omega) (by omega) d_M_far_159 ?_
      refine z_top (y := (iv (rho (9 * T.length + u.1.length)))) (hf _ (by omega)) ?_
      refine lv_iload hF.1 hF.2.1 d_M_far_160 (lv_at hl 1 rfl) ?_
      refine lv_icmp_ne (tgt := 168) hF.1 hF.2.1 d_M_far_162 (by decide) (fun z => ?_) (fun z => ?_)
      · obtain ⟨h2, hlt⟩ := hm.2 (fun y => z ((iv_nI htb (by omega)).mpr y))
        refine lv_iconst (v := (nI (0))) hF.1 hF.2.1 d_M_far_168 (by decide) ?_
        refine lv_istore hF.1 hF.2.1 d_M_far_169 hl (by decide) rfl (fun ls hl => ?_)
        have hl : lv_has ls 8 [(5, .int (nI (0))), (4, .int (nI (k))), (0, .ref (ad (104))), (1, .int (nI (w))), (2, .int (nI (i))), (3, .int (nI (j)))] := hl
        refine pass2 99 0 k rho en1 H locs ls (by omega) (by omega) hfw (bf_ok_up hok (by omega)) h2 (fun rho en1 H locs ls hfw hok h1 hl hZ => ?_) hl hZ
        refine lv_iinc (k := 1) (v := (nI (k + 1))) hF.1 hF.2.1 d_M_far_297 hl rfl (iinc_p (k)) (by decide) rfl (fun ls hl => ?_)
        have hl : lv_has ls 8 [(4, .int (nI (k + 1))), (5, .int (nI (99))), (0, .ref (ad (104))), (1, .int (nI (w))), (2, .int (nI (i))), (3, .int (nI (j)))] := hl
        refine lv_goto (tgt := 39) hF.1 hF.2.1 d_M_far_300 (by decide) ?_
        exact ih (k + 1) rho en1 H locs ls (by omega) hfw hok h1 (lv_sub hl [0, 2, 3, 4, 5] rfl) hZ
      · have hks := hm.1 ((iv_nI htb (by omega)).mp z)
        refine lv_iload hF.1 hF.2.1 d_M_far_165 (lv_at hl 1 rfl) ?_
        exact z_iret hF hr hlocks hZ rfl ⟨by rw [hks, hds], ⟨f, e9⟩, hfr⟩ d_M_far_167
  have fill : ∀ (n q : Nat) (f : Nat → Int32) (en1 : Nat → va_E) (H : Heap) (locs : List Loc) (ls : Array Slot), q + n = 99 → (∀ r, r ≠ 109 → en1 r = en r) → (en1 109 = .inl (zI G, 99, .inl f)) → (∀ x, x < q → f x = -1) → lv_has ls 8 [(4, .int (nI (q))), (0, .ref (ad (104))), (1, .int (nI (w))), (2, .int (nI (i))), (3, .int (nI (j)))] → zH G ad en1 N s H locs → W p l e (zR 2) s m ([.ref (ad (104)), .int (nI (w)), .int (nI (i)), .int (nI (j))] : List Value).toArray below meth c H locs 0 0 (MQ below (zQi G ad N (fun v en1 => v = nI (ed_d T u.1 i j) ∧ (∃ f : Nat → Int32, en1 109 = .inl (zI G, 99, .inl f)) ∧ ∀ r, r ≠ 109 → en1 r = en r)) ([.ref (ad (104)), .int (nI (w)), .int (nI (i)), .int (nI (j))] : List Value).toArray s 0 0 (zA G)) (F0 m 3 ls []) := by
    intro n
    induction n with
    | zero =>
      intro q f en1 H locs ls hin hfr e9 hf hl hZ
      have q1 := (hfr 104 (by omega)).trans p1
      refine lv_iload hF.1 hF.2.1 d_M_far_3 (lv_at hl 0 rfl) ?_
      refine lv_bipush (v := (nI (99))) hF.1 hF.2.1 d_M_far_5 (by decide) ?_
      refine lv_icmp_ge (tgt := 24) hF.1 hF.2.1 d_M_far_7 (by decide) (fun _ => ?_) (fun h => absurd (nI_le (by omega) (by omega)) h)
      refine lv_aload_n hF.1 hF.2.1 d_M_far_24 rfl (lv_at hl 1 rfl) ?_
      refine gf_M_22 hF hZ (104) (by omega) q1 rfl d_M_far_25 ?_
      refine lv_bipush (v := (nI (9))) hF.1 hF.2.1 d_M_far_28 (by decide) ?_
      refine lv_iload_n hF.1 hF.2.1 d_M_far_30 rfl (lv_at hl 3 rfl) ?_
      refine lv_imul hF.1 hF.2.1 d_M_far_31 ?_
      refine z_top (pk_mul (9) (i)) ?_
      refine lv_iload_n hF.1 hF.2.1 d_M_far_32 rfl (lv_at hl 4 rfl) ?_
      refine lv_iadd hF.1 hF.2.1 d_M_far_33 ?_
      refine z_top (nI_add ((9) * (i)) (j)) ?_
      refine lv_iconst (v := (nI (0))) hF.1 hF.2.1 d_M_far_34 (by decide) ?_
      refine z_iast hF hZ (109) (by omega) e9 ((9) * (i) + j) (by omega) (by omega) d_M_far_35 (fun H locs hZ => ?_)
      obtain ⟨ze11, hn12⟩ : ∃ z, z = va_up en1 (109) (.inl (zI G, 99, .inl (upd (f) ((9) * (i) + j) (nI (0))))) := ⟨_, rfl⟩
      have hZ : zH G ad ze11 N s H locs := hZ.to hn12.symm
      have ff13 : ze11 (104) = .inr (kM, [.ref (ad (105)), .int (nI (T.length)), .ref (ad (106)), .ref (ad (107)), .ref (ad (108)), .int (nI (mw.length)), .ref (ad (109)), .ref (ad (110))]) := by rw [hn12, va_up_ne _ _ (by omega)]; exact q1
      have ff14 : ze11 (109) = .inl (zI G, 99, .inl (upd (f) ((9) * (i) + j) (nI (0)))) := by rw [hn12]; exact va_up_self _ _ _
      refine lv_iconst (v := (nI (0))) hF.1 hF.2.1 d_M_far_36 (by decide) ?_
      refine lv_istore hF.1 hF.2.1 d_M_far_37 hl (by decide) rfl (fun ls hl => ?_)
      have hl : lv_has ls 8 [(4, .int (nI (0))), (0, .ref (ad (104))), (1, .int (nI (w))), (2, .int (nI (i))), (3, .int (nI (j)))] := hl
      have h0 := bf_0 u8 p2 hi hj
      rw [← hds] at h0
      refine main 19 0 _ ze11 H locs ls (by omega) ⟨fun r hr => by rw [hn12, va_up_ne _ _ hr]; exact hfr r hr, _, ff14, fun x hx => ?_⟩ h0.1 h0.2 hl hZ
      by_cases y : x = 9 * i + j
      · subst y; rw [pk_us]; show _ = iv (if _ then 1 else 0); rw [if_pos rfl]; rfl
      · rw [pk_un y, hf x (by omega)]; show _ = iv (if _ then 1 else 0); rw [if_neg y]; exact iv_0.symm
    | succ n ih =>
      intro q f en1 H locs ls hin hfr e9 hf hl hZ
      have q1 := (hfr 104 (by omega)).trans p1
      refine lv_iload hF.1 hF.2.1 d_M_far_3 (lv_at hl 0 rfl) ?_
      refine lv_bipush (v := (nI (99))) hF.1 hF.2.1 d_M_far_5 (by decide) ?_
      refine lv_icmp_ge (tgt := 24) hF.1 hF.2.1 d_M_far_7 (by decide) (fun h => absurd h (nI_ge (show q < 99 by omega) (by omega))) (fun _ => ?_)
      refine lv_aload_n hF.1 hF.2.1 d_M_far_10 rfl (lv_at hl 1 rfl) ?_
      refine gf_M_22 hF hZ (104) (by omega) q1 rfl d_M_far_11 ?_
      refine lv_iload hF.1 hF.2.1 d_M_far_14 (lv_at hl 0 rfl) ?_
      refine lv_iconst (v := ((-1))) hF.1 hF.2.1 d_M_far_16 (by decide) ?_
      refine z_iast hF hZ (109) (by omega) e9 (q) (by omega) (by omega) d_M_far_17 (fun H locs hZ => ?_)
      obtain ⟨ze15, hn16⟩ : ∃ z, z = va_up en1 (109) (.inl (zI G, 99, .inl (upd (f) (q) ((-1))))) := ⟨_, rfl⟩
      have hZ : zH G ad ze15 N s H locs := hZ.to hn16.symm
      have ff17 : ze15 (104) = .inr (kM, [.ref (ad (105)), .int (nI (T.length)), .ref (ad (106)), .ref (ad (107)), .ref (ad (108)), .int (nI (mw.length)), .ref (ad (109)), .ref (ad (110))]) := by rw [hn16, va_up_ne _ _ (by omega)]; exact q1
      have ff18 : ze15 (109) = .inl (zI G, 99, .inl (upd (f) (q) ((-1)))) := by rw [hn16]; exact va_up_self _ _ _
      refine lv_iinc (k := 0) (v := (nI (q + 1))) hF.1 hF.2.1 d_M_far_18 hl rfl (iinc_p (q)) (by decide) rfl (fun ls hl => ?_)
      have hl : lv_has ls 8 [(4, .int (nI (q + 1))), (0, .ref (ad (104))), (1, .int (nI (w))), (2, .int (nI (i))), (3, .int (nI (j)))] := hl
      refine lv_goto (tgt := 3) hF.1 hF.2.1 d_M_far_21 (by decide) ?_
      refine ih (q + 1) _ ze15 H locs ls (by omega) (fun r hr => by rw [hn16, va_up_ne _ _ hr]; exact hfr r hr) ff18 (fun x hx => ?_) hl hZ
      by_cases y : x = q
      · subst y; rw [pk_us]
      · rw [pk_un y]; exact hf x (by omega)
  refine lv_iconst (v := (nI (0))) hF.1 hF.2.1 d_M_far_0 (by decide) ?_
  refine lv_istore hF.1 hF.2.1 d_M_far_1 hl (by decide) rfl (fun ls hl => ?_)
  have hl : lv_has ls 8 [(4, .int (nI (0))), (0, .ref (ad (104))), (1, .int (nI (w))), (2, .int (nI (i))), (3, .int (nI (j)))] := hl
  exact fill 99 0 fr en _ _ ls (by omega) (fun _ _ => rfl) p10 (fun x hx => absurd hx (Nat.not_lt_zero _)) hl hZ
end
section
set_option maxHeartbeats 4000000 in
set_option maxRecDepth 100000 in
theorem c_M_distance (l : Launch) {G : zG} {ad : Nat → Nat} {en : Nat → va_E} {N : Nat} {T : List Nat} {mw : List wd_W} (hN : 111 ≤ N) (h : pM G ad en T mw) {C : List wd_W} (hpm : C.Perm mw) (hso : wd_so C) {k : Int32} : zMi l y_M_distance b_M_distance 3 .int 5 G ad en N [.ref (ad (104)), .int (k)] (fun v en1 => pM G ad en1 T mw ∧ (∀ r, r ≠ 109 → en1 r = en r) ∧ ((∃ j u, C[j]? = some u ∧ k = nI j ∧ v = nI (dist T u)) ∨ ((k < 0 ∨ nI C.length ≤ k) ∧ v = -1))) := by
  have hh := h
  obtain ⟨p1, p2, p26, p3, ⟨ft, p4, p5⟩, ⟨fl, fs, fc, p6, p7, p8, p9⟩, ⟨fr, p10⟩, fj, p11⟩ := hh
  refine z_met (by decide) (Nat.le_of_ble_eq_true rfl) ?_
  intro p e s m below meth c ls hF hr hlocks hnam hZ hl
  have hF : CallFix p m c b_M_distance 3 s ([.ref (ad (104)), .int (k)] : List Value).toArray zz R_M := hF
  have hl : lv_has ls 3 [(0, .ref (ad (104))), (1, .int (k))] := hl
  refine lv_aload_n hF.1 hF.2.1 d_M_distance_0 rfl (lv_at hl 0 rfl) ?_
  refine lv_iload_n hF.1 hF.2.1 d_M_distance_1 rfl (lv_at hl 1 rfl) ?_
  refine z_calli hZ (z_run cw_M_57 hF hZ (104) (c_M_place l hN h hpm hso) (by decide) (by omega) p1 rfl rfl hl.1 rfl (Nat.le_of_ble_eq_true rfl) d_M_distance_2) (fun v enq H locs hp hZ => ?_)
  obtain ⟨he, hd⟩ := hp
  have hZ := hZ.to he
  rcases hd with ⟨w, j, u, hw, hj, hk, hv⟩ | ⟨hv, hno⟩
  · subst hv
    have hwl := wd_lt_of hw
    obtain ⟨u8, u26, ut, us, uc, ul⟩ := p9 w u hw
    refine lv_istore_n hF.1 hF.2.1 d_M_distance_5 rfl hl (by decide) rfl (fun ls hl => ?_)
    have hl : lv_has ls 3 [(2, .int (nI (w))), (0, .ref (ad (104))), (1, .int (k))] := hl
    refine lv_iload_n hF.1 hF.2.1 d_M_distance_6 rfl (lv_at hl 0 rfl) ?_
    refine lv_if_ge (tgt := 14) hF.1 hF.2.1 d_M_distance_7 (by decide) (fun _ => ?_) (fun h => absurd (nI_pos' (by omega)) h)
    refine lv_aload_n hF.1 hF.2.1 d_M_distance_14 rfl (lv_at hl 1 rfl) ?_
    refine lv_iload_n hF.1 hF.2.1 d_M_distance_15 rfl (lv_at hl 0 rfl) ?_
    refine lv_iconst (v := (nI (0))) hF.1 hF.2.1 d_M_distance_16 (by decide) ?_
    refine lv_iconst (v := (nI (0))) hF.1 hF.2.1 d_M_distance_17 (by decide) ?_
    refine z_calli hZ (z_run cw_M_64 hF hZ (104) (c_M_far l hN h hw (i := 0) (j := 0) (Nat.zero_le _) (Nat.zero_le _)) (by decide) (by omega) p1 rfl rfl hl.1 rfl (Nat.le_of_ble_eq_true rfl) d_M_distance_18) (fun v en1 H locs hq hZ => ?_)
    obtain ⟨hv, ⟨f, e9⟩, hq2⟩ := hq
    subst hv
    exact z_iret hF hr hlocks hZ rfl ⟨h.k109 e9 hq2, hq2, Or.inl ⟨j, u, hj, hk, rfl⟩⟩ d_M_distance_21
  · subst hv
    refine lv_istore_n hF.1 hF.2.1 d_M_distance_5 rfl hl (by decide) rfl (fun ls hl => ?_)
    have hl : lv_has ls 3 [(2, .int ((-1))), (0, .ref (ad (104))), (1, .int (k))] := hl
    refine lv_iload_n hF.1 hF.2.1 d_M_distance_6 rfl (lv_at hl 0 rfl) ?_
    refine lv_if_ge (tgt := 14) hF.1 hF.2.1 d_M_distance_7 (by decide) (fun h => absurd h (by decide)) (fun _ => ?_)
    refine lv_iconst (v := ((-1))) hF.1 hF.2.1 d_M_distance_10 (by decide) ?_
    refine lv_goto (tgt := 21) hF.1 hF.2.1 d_M_distance_11 (by decide) ?_
    exact z_iret hF hr hlocks hZ rfl ⟨h, fun _ _ => rfl, Or.inr ⟨hno, rfl⟩⟩ d_M_distance_21
set_option maxHeartbeats 4000000 in
set_option maxRecDepth 100000 in
theorem c_M_near (l : Launch) {G : zG} {ad : Nat → Nat} {en : Nat → va_E} {N : Nat} {T : List Nat} {mw : List wd_W} (hN : 111 ≤ N) (h : pM G ad en T mw) {dd : Int32} : zMi l y_M_near b_M_near 4 .int 3 G ad en N [.ref (ad (104)), .int (dd)] (fun v en1 => pM G ad en1 T mw ∧ (∀ r, r ≠ 109 → en1 r = en r) ∧ v = nI (mw.countP (fun u => decide (nI (dist T u) ≤ dd)))) := by
  refine z_met (by decide) (Nat.le_of_ble_eq_true rfl) ?_
  intro p e s m below meth c ls hF hr hlocks hnam hZ hl
  have hF : CallFix p m c b_M_near 4 s ([.ref (ad (104)), .int (dd)] : List Value).toArray zz R_M := hF
  have hl : lv_has ls 4 [(0, .ref (ad (104))), (1, .int (dd))] := hl
  have loop : ∀ (n i c0 : Nat) (en1 : Nat → va_E) (H : Heap) (locs : List Loc) (ls : Array Slot), (i + n = mw.length) → (pM G ad en1 T mw) → (∀ r, r ≠ 109 → en1 r = en r) → (c0 = (mw.take i).countP (fun u => decide (nI (dist T u) ≤ dd))) → lv_has ls 4 [(3, .int (nI (i))), (2, .int (nI (c0))), (0, .ref (ad (104))), (1, .int (dd))] → zH G ad en1 N s H locs → W p l e (zR 3) s m ([.ref (ad (104)), .int (dd)] : List Value).toArray below meth c H locs 0 0 (MQ below (zQi G ad N (fun v en1 => pM G ad en1 T mw ∧ (∀ r, r ≠ 109 → en1 r = en r) ∧ v = nI (mw.countP (fun u => decide (nI (dist T u) ≤ dd))))) ([.ref (ad (104)), .int (dd)] : List Value).toArray s 0 0 (zA G)) (F0 m 4 ls []) := by
    intro n
    induction n with
    | zero =>
      intro i c0 en1 H locs ls hin h1 hfr hp hl hZ
      have hh := h1
      obtain ⟨p1, p2, p26, p3, ⟨ft, p4, p5⟩, ⟨fl, fs, fc, p6, p7, p8, p9⟩, ⟨fr, p10⟩, fj, p11⟩ := hh
      refine lv_iload_n hF.1 hF.2.1 d_M_near_4 rfl (lv_at hl 0 rfl) ?_
      refine lv_aload_n hF.1 hF.2.1 d_M_near_5 rfl (lv_at hl 2 rfl) ?_
      refine gf_M_37 hF hZ (104) (by omega) p1 rfl d_M_near_6 ?_
      refine lv_icmp_ge (tgt := 32) hF.1 hF.2.1 d_M_near_9 (by decide) (fun _ => ?_) (fun h => absurd (nI_le (by omega) (by omega)) h)
      refine lv_iload_n hF.1 hF.2.1 d_M_near_32 rfl (lv_at hl 1 rfl) ?_
      exact z_iret hF hr hlocks hZ rfl ⟨h1, hfr, by rw [hp, List.take_of_length_le (by omega)]⟩ d_M_near_33
    | succ n ih =>
      intro i c0 en1 H locs ls hin h1 hfr hp hl hZ
      obtain ⟨u, hi⟩ := wd_some (show i < mw.length by omega)
      have hct := wd_cnt_s (fun u => decide (nI (dist T u) ≤ dd)) hi
      have hh := h1
      obtain ⟨p1, p2, p26, p3, ⟨ft, p4, p5⟩, ⟨fl, fs, fc, p6, p7, p8, p9⟩, ⟨fr, p10⟩, fj, p11⟩ := hh
      refine lv_iload_n hF.1 hF.2.1 d_M_near_4 rfl (lv_at hl 0 rfl) ?_
      refine lv_aload_n hF.1 hF.2.1 d_M_near_5 rfl (lv_at hl 2 rfl) ?_
      refine gf_M_37 hF hZ (104) (by omega) p1 rfl d_M_near_6 ?_
      refine lv_icmp_ge (tgt := 32) hF.1 hF.2.1 d_M_near_9 (by decide) (fun h => absurd h (nI_ge (show i < mw.length by omega) (by omega))) (fun _ => ?_)
      refine lv_aload_n hF.1 hF.2.1 d_M_near_12 rfl (lv_at hl 2 rfl) ?_
      refine lv_iload_n hF.1 hF.2.1 d_M_near_13 rfl (lv_at hl 0 rfl) ?_
      refine lv_iconst (v := (nI (0))) hF.1 hF.2.1 d_M_near_14 (by decide) ?_
      refine lv_iconst (v := (nI (0))) hF.1 hF.2.1 d_M_near_15 (by decide) ?_
      refine z_calli hZ (z_run cw_M_64 hF hZ (104) (c_M_far l hN h1 hi (i := 0) (j := 0) (Nat.zero_le _) (Nat.zero_le _)) (by decide) (by omega) p1 rfl rfl hl.1 rfl (Nat.le_of_ble_eq_true rfl) d_M_near_16) (fun v en2 H locs hq hZ => ?_)
      obtain ⟨hv, ⟨f, e9⟩, hq2⟩ := hq
      subst hv
      have h2 := h1.k109 e9 hq2
      have hfr2 : ∀ r, r ≠ 109 → en2 r = en r := fun r hr => (hq2 r hr).trans (hfr r hr)
      refine lv_iload_n hF.1 hF.2.1 d_M_near_19 rfl (lv_at hl 3 rfl) ?_
      refine lv_icmp_gt (tgt := 26) hF.1 hF.2.1 d_M_near_20 (by decide) (fun q => ?_) (fun q => ?_)
      · have q : ¬ nI (dist T u) ≤ dd := fun z => by
          rw [Int32.lt_iff_toInt_lt] at q; rw [Int32.le_iff_toInt_le] at z; exact absurd z (Int.not_le.mpr q)
        refine lv_iinc (k := 0) (v := (nI (i + 1))) hF.1 hF.2.1 d_M_near_26 hl rfl (iinc_p (i)) (by decide) rfl (fun ls hl => ?_)
        have hl : lv_has ls 4 [(3, .int (nI (i + 1))), (2, .int (nI (c0))), (0, .ref (ad (104))), (1, .int (dd))] := hl
        refine lv_goto (tgt := 4) hF.1 hF.2.1 d_M_near_29 (by decide) ?_
        exact ih (i + 1) c0 en2 H locs ls (by omega) h2 hfr2 (by rw [hct, decide_eq_false q, ← hp]; rfl) hl hZ
      · have q : nI (dist T u) ≤ dd := by
          rw [Int32.le_iff_toInt_le]; exact Int.not_lt.mp (fun z => q (Int32.lt_iff_toInt_lt.mpr z))
        refine lv_iinc (k := 1) (v := (nI (c0 + 1))) hF.1 hF.2.1 d_M_near_23 hl rfl (iinc_p (c0)) (by decide) rfl (fun ls hl => ?_)
        have hl : lv_has ls 4 [(2, .int (nI (c0 + 1))), (3, .int (nI (i))), (0, .ref (ad (104))), (1, .int (dd))] := hl
        refine lv_iinc (k := 1) (v := (nI (i + 1))) hF.1 hF.2.1 d_M_near_26 hl rfl (iinc_p (i)) (by decide) rfl (fun ls hl => ?_)
        have hl : lv_has ls 4 [(3, .int (nI (i + 1))), (2, .int (nI (c0 + 1))), (0, .ref (ad (104))), (1, .int (dd))] := hl
        refine lv_goto (tgt := 4) hF.1 hF.2.1 d_M_near_29 (by decide) ?_
        exact ih (i + 1) (c0 + 1) en2 H locs ls (by omega) h2 hfr2 (by rw [hct, decide_eq_true q, ← hp]; rfl) hl hZ
  refine lv_iconst (v := (nI (0))) hF.1 hF.2.1 d_M_near_0 (by decide) ?_
  refine lv_istore_n hF.1 hF.2.1 d_M_near_1 rfl hl (by decide) rfl (fun ls hl => ?_)
  have hl : lv_has ls 4 [(2, .int (nI (0))), (0, .ref (ad (104))), (1, .int (dd))] := hl
  refine lv_iconst (v := (nI (0))) hF.1 hF.2.1 d_M_near_2 (by decide) ?_
  refine lv_istore_n hF.1 hF.2.1 d_M_near_3 rfl hl (by decide) rfl (fun ls hl => ?_)
  have hl : lv_has ls 4 [(3, .int (nI (0))), (2, .int (nI (0))), (0, .ref (ad (104))), (1, .int (dd))] := hl
  exact loop mw.length 0 0 en _ _ ls (by omega) h (fun _ _ => rfl) (by rw [List.take_zero]; rfl) hl hZ
set_option maxHeartbeats 4000000 in
set_option maxRecDepth 100000 in
theorem c_M_better (l : Launch) {G : zG} {ad : Nat → Nat} {en : Nat → va_E} {N : Nat} {T : List Nat} {mw : List wd_W} (hN : 111 ≤ N) (h : pM G ad en T mw) {w : Nat} {u : wd_W} (hw : mw[w]? = some u) {x : Nat} {t : wd_W} (hx : mw[x]? = some t) {a b : Nat} (ha : a < 2 ^ 31) (hb : b < 2 ^ 31) : zMi l y_M_better b_M_better 5 .boolean 3 G ad en N [.ref (ad (104)), .int (nI (w)), .int (nI (a)), .int (nI (x)), .int (nI (b))] (fun v en1 => en1 = en ∧ v = bI (if a = b then (if u.2 = t.2 then wd_lt u.1 t.1 else decide (t.2 < u.2)) else decide (a < b))) := by
  have hh := h
  obtain ⟨p1, p2, p26, p3, ⟨ft, p4, p5⟩, ⟨fl, fs, fc, p6, p7, p8, p9⟩, ⟨fr, p10⟩, fj, p11⟩ := hh
  have hwl := wd_lt_of hw
  obtain ⟨u8, u26, ut, us, uc, ul⟩ := p9 w u hw
  have hxl := wd_lt_of hx
  obtain ⟨t8, t26, tt, ts, tc, tl⟩ := p9 x t hx
  refine z_met (by decide) (Nat.le_of_ble_eq_true rfl) ?_
  intro p e s m below meth c ls hF hr hlocks hnam hZ hl
  have hF : CallFix p m c b_M_better 5 s ([.ref (ad (104)), .int (nI (w)), .int (nI (a)), .int (nI (x)), .int (nI (b))] : List Value).toArray zz R_M := hF
  have hl : lv_has ls 5 [(0, .ref (ad (104))), (1, .int (nI (w))), (2, .int (nI (a))), (3, .int (nI (x))), (4, .int (nI (b)))] := hl
  refine lv_iload_n hF.1 hF.2.1 d_M_better_0 rfl (lv_at hl 2 rfl) ?_
  refine lv_iload hF.1 hF.2.1 d_M_better_1 (lv_at hl 4 rfl) ?_
  refine lv_icmp_eq (tgt := 18) hF.1 hF.2.1 d_M_better_3 (by decide) (fun q => ?_) (fun q => ?_)
  · have q := (nI_eq ha hb).mp q
    refine lv_aload_n hF.1 hF.2.1 d_M_better_18 rfl (lv_at hl 0 rfl) ?_
    refine gf_M_19 hF hZ (104) (by omega) p1 rfl d_M_better_19 ?_
    refine lv_iload_n hF.1 hF.2.1 d_M_better_22 rfl (lv_at hl 1 rfl) ?_
    refine z_iald hF hZ (108) (by omega) p8 (w) (by omega) (by omega) d_M_better_23 ?_
    refine z_top (y := (nI (u.2))) uc ?_
    refine lv_aload_n hF.1 hF.2.1 d_M_better_24 rfl (lv_at hl 0 rfl) ?_
    refine gf_M_19 hF hZ (104) (by omega) p1 rfl d_M_better_25 ?_
    refine lv_iload_n hF.1 hF.2.1 d_M_better_28 rfl (lv_at hl 3 rfl) ?_
    refine z_iald hF hZ (108) (by omega) p8 (x) (by omega) (by omega) d_M_better_29 ?_
    refine z_top (y := (nI (t.2))) tc ?_
    refine lv_icmp_eq (tgt := 56) hF.1 hF.2.1 d_M_better_30 (by decide) (fun r => ?_) (fun r => ?_)
    · have r := (nI_eq (by omega) (by omega)).mp r
      refine lv_aload_n hF.1 hF.2.1 d_M_better_56 rfl (lv_at hl 0 rfl) ?_
      refine lv_iload_n hF.1 hF.2.1 d_M_better_57 rfl (lv_at hl 1 rfl) ?_
      refine lv_iload_n hF.1 hF.2.1 d_M_better_58 rfl (lv_at hl 3 rfl) ?_
      refine z_calli hZ (z_run cw_M_40 hF hZ (104) (c_M_before l hN h hw hx) (by decide) (by omega) p1 rfl rfl hl.1 rfl (Nat.le_of_ble_eq_true rfl) d_M_better_59) (fun v enq H locs hp hZ => ?_)
      obtain ⟨he, hv⟩ := hp
      subst hv
      have hZ := hZ.to he
      exact z_iret hF hr hlocks hZ (bI_nar _) ⟨rfl, by rw [if_pos q, if_pos r]⟩ d_M_better_62
    · have r : ¬ u.2 = t.2 := fun z => r (by rw [z])
      refine lv_aload_n hF.1 hF.2.1 d_M_better_33 rfl (lv_at hl 0 rfl) ?_
      refine gf_M_19 hF hZ (104) (by omega) p1 rfl d_M_better_34 ?_
      refine lv_iload_n hF.1 hF.2.1 d_M_better_37 rfl (lv_at hl 1 rfl) ?_
      refine z_iald hF hZ (108) (by omega) p8 (w) (by omega) (by omega) d_M_better_38 ?_
      refine z_top (y := (nI (u.2))) uc ?_
      refine lv_aload_n hF.1 hF.2.1 d_M_better_39 rfl (lv_at hl 0 rfl) ?_
      refine gf_M_19 hF hZ (104) (by omega) p1 rfl d_M_better_40 ?_
      refine lv_iload_n hF.1 hF.2.1 d_M_better_43 rfl (lv_at hl 3 rfl) ?_
      refine z_iald hF hZ (108) (by omega) p8 (x) (by omega) (by omega) d_M_better_44 ?_
      refine z_top (y := (nI (t.2))) tc ?_
      refine lv_icmp_le (tgt := 52) hF.1 hF.2.1 d_M_better_45 (by decide) (fun z => ?_) (fun z => ?_)
      · have z := (nI_leI (by omega) (by omega)).mp z
        refine lv_iconst (v := (nI (0))) hF.1 hF.2.1 d_M_better_52 (by decide) ?_
        refine lv_goto (tgt := 62) hF.1 hF.2.1 d_M_better_53 (by decide) ?_
        exact z_iret hF hr hlocks hZ (by decide) ⟨rfl, by rw [if_pos q, if_neg r, decide_eq_false (by omega)]; rfl⟩ d_M_better_62
      · have z : t.2 < u.2 := Nat.lt_of_not_le (fun y => z (nI_le y (by omega)))
        refine lv_iconst (v := (nI (1))) hF.1 hF.2.1 d_M_better_48 (by decide) ?_
        refine lv_goto (tgt := 62) hF.1 hF.2.1 d_M_better_49 (by decide) ?_
        exact z_iret hF hr hlocks hZ (by decide) ⟨rfl, by rw [if_pos q, if_neg r, decide_eq_true z]; rfl⟩ d_M_better_62
  · have q : ¬ a = b := fun z => q (by rw [z])
    refine lv_iload_n hF.1 hF.2.1 d_M_better_6 rfl (lv_at hl 2 rfl) ?_
    refine lv_iload hF.1 hF.2.1 d_M_better_7 (lv_at hl 4 rfl) ?_
    refine lv_icmp_ge (tgt := 16) hF.1 hF.2.1 d_M_better_9 (by decide) (fun z => ?_) (fun z => ?_)
    · have z := (nI_leI hb ha).mp z
      refine lv_iconst (v := (nI (0))) hF.1 hF.2.1 d_M_better_16 (by decide) ?_
      exact z_iret hF hr hlocks hZ (by decide) ⟨rfl, by rw [if_neg q, decide_eq_false (by omega)]; rfl⟩ d_M_better_17
    · have z : a < b := Nat.lt_of_not_le (fun y => z (nI_le y ha))
      refine lv_iconst (v := (nI (1))) hF.1 hF.2.1 d_M_better_12 (by decide) ?_
      refine lv_goto (tgt := 17) hF.1 hF.2.1 d_M_better_13 (by decide) ?_
      exact z_iret hF hr hlocks hZ (by decide) ⟨rfl, by rw [if_neg q, decide_eq_true z]; rfl⟩ d_M_better_17
set_option maxHeartbeats 4000000 in
set_option maxRecDepth 100000 in
theorem c_M_suggest (l : Launch) {G : zG} {ad : Nat → Nat} {en : Nat → va_E} {N : Nat} {T : List Nat} {mw : List wd_W} (hN : 111 ≤ N) (h : pM G ad en T mw) {C : List wd_W} (hpm : C.Perm mw) (hso : wd_so C) {i0 dd : Int32} : zMi l y_M_suggest b_M_suggest 8 .int 4 G ad en N [.ref (ad (104)), .int (i0), .int (dd)] (fun v en1 => pM G ad en1 T mw ∧ (∀ r, r ≠ 109 → en1 r = en r) ∧ wd_sug C (dist T) (fun u => decide (nI (dist T u) ≤ dd)) i0 v) := by
  have hlen := hpm.length_eq
  refine z_met (by decide) (Nat.le_of_ble_eq_true rfl) ?_
  intro p e s m below meth c ls hF hr hlocks hnam hZ hl
  have hF : CallFix p m c b_M_suggest 8 s ([.ref (ad (104)), .int (i0), .int (dd)] : List Value).toArray zz R_M := hF
  have hl : lv_has ls 8 [(0, .ref (ad (104))), (1, .int (i0)), (2, .int (dd))] := hl
  have inner : ∀ (n x c0 w : Nat) (u : wd_W) (en1 : Nat → va_E) (H : Heap) (locs : List Loc) (ls : Array Slot), mw[w]? = some u → x + n = mw.length → pM G ad en1 T mw → (∀ r, r ≠ 109 → en1 r = en r) → c0 = (mw.take x).countP (fun v => decide (nI (dist T v) ≤ dd) && wd_bt (dist T) v u) → (∀ (en1 : Nat → va_E) (H : Heap) (locs : List Loc) (ls : Array Slot), pM G ad en1 T mw → (∀ r, r ≠ 109 → en1 r = en r) → lv_has ls 8 [(6, .int (nI (mw.length))), (5, .int (nI (mw.countP (fun v => decide (nI (dist T v) ≤ dd) && wd_bt (dist T) v u)))), (4, .int (nI (dist T u))), (3, .int (nI (w))), (0, .ref (ad (104))), (1, .int (i0)), (2, .int (dd))] → zH G ad en1 N s H locs → W p l e (zR 4) s m ([.ref (ad (104)), .int (i0), .int (dd)] : List Value).toArray below meth c H locs 0 0 (MQ below (zQi G ad N (fun v en1 => pM G ad en1 T mw ∧ (∀ r, r ≠ 109 → en1 r = en r) ∧ wd_sug C (dist T) (fun u => decide (nI (dist T u) ≤ dd)) i0 v)) ([.ref (ad (104)), .int (i0), .int (dd)] : List Value).toArray s 0 0 (zA G)) (F0 m 77 ls [])) → lv_has ls 8 [(6, .int (nI (x))), (5, .int (nI (c0))), (4, .int (nI (dist T u))), (3, .int (nI (w))), (0, .ref (ad (104))), (1, .int (i0)), (2, .int (dd))] → zH G ad en1 N s H locs → W p l e (zR 4) s m ([.ref (ad (104)), .int (i0), .int (dd)] : List Value).toArray below meth c H locs 0 0 (MQ below (zQi G ad N (fun v en1 => pM G ad en1 T mw ∧ (∀ r, r ≠ 109 → en1 r = en r) ∧ wd_sug C (dist T) (fun u => decide (nI (dist T u) ≤ dd)) i0 v)) ([.ref (ad (104)), .int (i0), .int (dd)] : List Value).toArray s 0 0 (zA G)) (F0 m 29 ls []) := by
    intro n
    induction n with
    | zero =>
      intro x c0 w u en1 H locs ls hw hin h1 hfr hp K hl hZ
      have hx : x = mw.length := by omega
      subst hx
      rw [List.take_length] at hp
      subst hp
      have hh := h1
      obtain ⟨p1, p2, p26, p3, ⟨ft, p4, p5⟩, ⟨fl, fs, fc, p6, p7, p8, p9⟩, ⟨fr, p10⟩, fj, p11⟩ := hh
      refine lv_iload hF.1 hF.2.1 d_M_suggest_29 (lv_at hl 0 rfl) ?_
      refine lv_aload_n hF.1 hF.2.1 d_M_suggest_31 rfl (lv_at hl 4 rfl) ?_
      refine gf_M_37 hF hZ (104) (by omega) p1 rfl d_M_suggest_32 ?_
      refine lv_icmp_ge (tgt := 77) hF.1 hF.2.1 d_M_suggest_35 (by decide) (fun _ => ?_) (fun h => absurd (nI_le (Nat.le_refl _) (by omega)) h)
      exact K en1 H locs ls h1 hfr hl hZ
    | succ n ih =>
      intro x c0 w u en1 H locs ls hw hin h1 hfr hp K hl hZ
      obtain ⟨t, hx⟩ := wd_some (show x < mw.length by omega)
      have hct := wd_cnt_s (fun v => decide (nI (dist T v) ≤ dd) && wd_bt (dist T) v u) hx
      have hh := h1
      obtain ⟨p1, p2, p26, p3, ⟨ft, p4, p5⟩, ⟨fl, fs, fc, p6, p7, p8, p9⟩, ⟨fr, p10⟩, fj, p11⟩ := hh
      have b1 := dist_18 p2 (p9 x t hx).1
      have b2 := dist_18 p2 (p9 w u hw).1
      refine lv_iload hF.1 hF.2.1 d_M_suggest_29 (lv_at hl 0 rfl) ?_
      refine lv_aload_n hF.1 hF.2.1 d_M_suggest_31 rfl (lv_at hl 4 rfl) ?_
      refine gf_M_37 hF hZ (104) (by omega) p1 rfl d_M_suggest_32 ?_
      refine lv_icmp_ge (tgt := 77) hF.1 hF.2.1 d_M_suggest_35 (by decide) (fun h => absurd h (nI_ge (show x < mw.length by omega) (by omega))) (fun _ => ?_)
      refine lv_aload_n hF.1 hF.2.1 d_M_suggest_38 rfl (lv_at hl 4 rfl) ?_
      refine lv_iload hF.1 hF.2.1 d_M_suggest_39 (lv_at hl 0 rfl) ?_
      refine lv_iconst (v := (nI (0))) hF.1 hF.2.1 d_M_suggest_41 (by decide) ?_
      refine lv_iconst (v := (nI (0))) hF.1 hF.2.1 d_M_suggest_42 (by decide) ?_
      refine z_calli hZ (z_run cw_M_64 hF hZ (104) (c_M_far l hN h1 hx (i := 0) (j := 0) (Nat.zero_le _) (Nat.zero_le _)) (by decide) (by omega) p1 rfl rfl hl.1 rfl (Nat.le_of_ble_eq_true rfl) d_M_suggest_43) (fun v en2 H locs hq hZ => ?_)
      obtain ⟨hv, ⟨f, e9⟩, hq2⟩ := hq
      subst hv
      have h2 := h1.k109 e9 hq2
      have hfr2 : ∀ r, r ≠ 109 → en2 r = en r := fun r hr => (hq2 r hr).trans (hfr r hr)
      have p1 := h2.1
      refine lv_istore hF.1 hF.2.1 d_M_suggest_46 hl (by decide) rfl (fun ls hl => ?_)
      have hl : lv_has ls 8 [(7, .int (nI (dist T t))), (6, .int (nI (x))), (5, .int (nI (c0))), (4, .int (nI (dist T u))), (3, .int (nI (w))), (0, .ref (ad (104))), (1, .int (i0)), (2, .int (dd))] := hl
      refine lv_iload hF.1 hF.2.1 d_M_suggest_48 (lv_at hl 0 rfl) ?_
      refine lv_iload_n hF.1 hF.2.1 d_M_suggest_50 rfl (lv_at hl 7 rfl) ?_
      refine lv_icmp_gt (tgt := 71) hF.1 hF.2.1 d_M_suggest_51 (by decide) (fun q => ?_) (fun q => ?_)
      · have q : ¬ nI (dist T t) ≤ dd := fun z => by
          rw [Int32.lt_iff_toInt_lt] at q; rw [Int32.le_iff_toInt_le] at z; exact absurd z (Int.not_le.mpr q)
        refine lv_iinc (k := 1) (v := (nI (x + 1))) hF.1 hF.2.1 d_M_suggest_71 hl rfl (iinc_p (x)) (by decide) rfl (fun ls hl => ?_)
        have hl : lv_has ls 8 [(6, .int (nI (x + 1))), (7, .int (nI (dist T t))), (5, .int (nI (c0))), (4, .int (nI (dist T u))), (3, .int (nI (w))), (0, .ref (ad (104))), (1, .int (i0)), (2, .int (dd))] := hl
        refine lv_goto (tgt := 29) hF.1 hF.2.1 d_M_suggest_74 (by decide) ?_
        exact ih (x + 1) c0 w u en2 H locs ls hw (by omega) h2 hfr2 (by rw [hct, decide_eq_false q, ← hp]; rfl) K (lv_sub hl [0, 2, 3, 4, 5, 6, 7] rfl) hZ
      · have q : nI (dist T t) ≤ dd := by
          rw [Int32.le_iff_toInt_le]; exact Int.not_lt.mp (fun z => q (Int32.lt_iff_toInt_lt.mpr z))
        refine lv_aload_n hF.1 hF.2.1 d_M_suggest_54 rfl (lv_at hl 5 rfl) ?_
        refine lv_iload hF.1 hF.2.1 d_M_suggest_55 (lv_at hl 1 rfl) ?_
        refine lv_iload hF.1 hF.2.1 d_M_suggest_57 (lv_at hl 0 rfl) ?_
        refine lv_iload_n hF.1 hF.2.1 d_M_suggest_59 rfl (lv_at hl 4 rfl) ?_
        refine lv_iload hF.1 hF.2.1 d_M_suggest_60 (lv_at hl 3 rfl) ?_
        refine z_calli hZ (z_run cw_M_68 hF hZ (104) (c_M_better l hN h2 hx hw (a := dist T t) (b := dist T u) (by omega) (by omega)) (by decide) (by omega) p1 rfl rfl hl.1 rfl (Nat.le_of_ble_eq_true rfl) d_M_suggest_62) (fun v enq H locs hp hZ => ?_)
        obtain ⟨he, hv⟩ := hp
        subst hv
        have hZ := hZ.to he
        refine lv_if_eq (tgt := 71) hF.1 hF.2.1 d_M_suggest_65 (by decide) (fun y => ?_) (fun y => ?_)
        · have y : wd_bt (dist T) t u = false := bI_0.mp y
          refine lv_iinc (k := 1) (v := (nI (x + 1))) hF.1 hF.2.1 d_M_suggest_71 hl rfl (iinc_p (x)) (by decide) rfl (fun ls hl => ?_)
          have hl : lv_has ls 8 [(6, .int (nI (x + 1))), (7, .int (nI (dist T t))), (5, .int (nI (c0))), (4, .int (nI (dist T u))), (3, .int (nI (w))), (0, .ref (ad (104))), (1, .int (i0)), (2, .int (dd))] := hl
          refine lv_goto (tgt := 29) hF.1 hF.2.1 d_M_suggest_74 (by decide) ?_
          exact ih (x + 1) c0 w u en2 H locs ls hw (by omega) h2 hfr2 (by rw [hct, decide_eq_true q, y, ← hp]; rfl) K (lv_sub hl [0, 2, 3, 4, 5, 6, 7] rfl) hZ
        · have y : wd_bt (dist T) t u = true := bI_1 y
          refine lv_iinc (k := 2) (v := (nI (c0 + 1))) hF.1 hF.2.1 d_M_suggest_68 hl rfl (iinc_p (c0)) (by decide) rfl (fun ls hl => ?_)
          have hl : lv_has ls 8 [(5, .int (nI (c0 + 1))), (7, .int (nI (dist T t))), (6, .int (nI (x))), (4, .int (nI (dist T u))), (3, .int (nI (w))), (0, .ref (ad (104))), (1, .int (i0)), (2, .int (dd))] := hl
          refine lv_iinc (k := 2) (v := (nI (x + 1))) hF.1 hF.2.1 d_M_suggest_71 hl rfl (iinc_p (x)) (by decide) rfl (fun ls hl => ?_)
          have hl : lv_has ls 8 [(6, .int (nI (x + 1))), (5, .int (nI (c0 + 1))), (7, .int (nI (dist T t))), (4, .int (nI (dist T u))), (3, .int (nI (w))), (0, .ref (ad (104))), (1, .int (i0)), (2, .int (dd))] := hl
          refine lv_goto (tgt := 29) hF.1 hF.2.1 d_M_suggest_74 (by decide) ?_
          exact ih (x + 1) (c0 + 1) w u en2 H locs ls hw (by omega) h2 hfr2 (by rw [hct, decide_eq_true q, y, ← hp]; rfl) K (lv_sub hl [0, 1, 3, 4, 5, 6, 7] rfl) hZ
  have outer : ∀ (n i : Nat) (en1 : Nat → va_E) (H : Heap) (locs : List Loc) (ls : Array Slot), (i + n = mw.length) → (pM G ad en1 T mw) → (∀ r, r ≠ 109 → en1 r = en r) → (∀ k v, k < i → mw[k]? = some v → nI (dist T v) ≤ dd → ¬ i0 = nI (mw.countP (fun v2 => decide (nI (dist T v2) ≤ dd) && wd_bt (dist T) v2 v))) → lv_has ls 8 [(3, .int (nI (i))), (0, .ref (ad (104))), (1, .int (i0)), (2, .int (dd))] → zH G ad en1 N s H locs → W p l e (zR 4) s m ([.ref (ad (104)), .int (i0), .int (dd)] : List Value).toArray below meth c H locs 0 0 (MQ below (zQi G ad N (fun v en1 => pM G ad en1 T mw ∧ (∀ r, r ≠ 109 → en1 r = en r) ∧ wd_sug C (dist T) (fun u => decide (nI (dist T u) ≤ dd)) i0 v)) ([.ref (ad (104)), .int (i0), .int (dd)] : List Value).toArray s 0 0 (zA G)) (F0 m 2 ls []) := by
    intro n
    induction n with
    | zero =>
      intro i en1 H locs ls hin h1 hfr hp hl hZ
      have hh := h1
      obtain ⟨p1, p2, p26, p3, ⟨ft, p4, p5⟩, ⟨fl, fs, fc, p6, p7, p8, p9⟩, ⟨fr, p10⟩, fj, p11⟩ := hh
      refine lv_iload_n hF.1 hF.2.1 d_M_suggest_2 rfl (lv_at hl 0 rfl) ?_
      refine lv_aload_n hF.1 hF.2.1 d_M_suggest_3 rfl (lv_at hl 1 rfl) ?_
      refine gf_M_37 hF hZ (104) (by omega) p1 rfl d_M_suggest_4 ?_
      refine lv_icmp_ge (tgt := 101) hF.1 hF.2.1 d_M_suggest_7 (by decide) (fun _ => ?_) (fun h => absurd (nI_le (by omega) (by omega)) h)
      refine lv_iconst (v := ((-1))) hF.1 hF.2.1 d_M_suggest_101 (by decide) ?_
      refine z_iret hF hr hlocks hZ rfl ⟨h1, hfr, Or.inr ⟨rfl, fun v hv qv => ?_⟩⟩ d_M_suggest_102
      obtain ⟨k, hk⟩ := List.getElem?_of_mem (hpm.mem_iff.mp hv)
      rw [hpm.countP_eq]
      exact hp k v (by have := wd_lt_of hk; omega) hk (of_decide_eq_true qv)
    | succ n ih =>
      intro i en1 H locs ls hin h1 hfr hp hl hZ
      obtain ⟨u, hi⟩ := wd_some (show i < mw.length by omega)
      obtain ⟨j, hj, hrk⟩ := wd_rank2 hpm hso hi
      have hh := h1
      obtain ⟨p1, p2, p26, p3, ⟨ft, p4, p5⟩, ⟨fl, fs, fc, p6, p7, p8, p9⟩, ⟨fr, p10⟩, fj, p11⟩ := hh
      refine lv_iload_n hF.1 hF.2.1 d_M_suggest_2 rfl (lv_at hl 0 rfl) ?_
      refine lv_aload_n hF.1 hF.2.1 d_M_suggest_3 rfl (lv_at hl 1 rfl) ?_
      refine gf_M_37 hF hZ (104) (by omega) p1 rfl d_M_suggest_4 ?_
      refine lv_icmp_ge (tgt := 101) hF.1 hF.2.1 d_M_suggest_7 (by decide) (fun h => absurd h (nI_ge (show i < mw.length by omega) (by omega))) (fun _ => ?_)
      refine lv_iload_n hF.1 hF.2.1 d_M_suggest_10 rfl (lv_at hl 2 rfl) ?_
      refine lv_if_lt (tgt := 101) hF.1 hF.2.1 d_M_suggest_11 (by decide) (fun z0 => ?_) (fun z0 => ?_)
      · refine lv_iconst (v := ((-1))) hF.1 hF.2.1 d_M_suggest_101 (by decide) ?_
        refine z_iret hF hr hlocks hZ rfl ⟨h1, hfr, Or.inr ⟨rfl, fun v hv qv => ?_⟩⟩ d_M_suggest_102
        intro z
        rw [z] at z0
        exact nI_pos (Nat.lt_of_le_of_lt List.countP_le_length (by omega)) z0
      · refine lv_aload_n hF.1 hF.2.1 d_M_suggest_14 rfl (lv_at hl 1 rfl) ?_
        refine lv_iload_n hF.1 hF.2.1 d_M_suggest_15 rfl (lv_at hl 0 rfl) ?_
        refine lv_iconst (v := (nI (0))) hF.1 hF.2.1 d_M_suggest_16 (by decide) ?_
        refine lv_iconst (v := (nI (0))) hF.1 hF.2.1 d_M_suggest_17 (by decide) ?_
        refine z_calli hZ (z_run cw_M_64 hF hZ (104) (c_M_far l hN h1 hi (i := 0) (j := 0) (Nat.zero_le _) (Nat.zero_le _)) (by decide) (by omega) p1 rfl rfl hl.1 rfl (Nat.le_of_ble_eq_true rfl) d_M_suggest_18) (fun v en2 H locs hq hZ => ?_)
        obtain ⟨hv, ⟨f, e9⟩, hq2⟩ := hq
        subst hv
        have h2 := h1.k109 e9 hq2
        have hfr2 : ∀ r, r ≠ 109 → en2 r = en r := fun r hr => (hq2 r hr).trans (hfr r hr)
        refine lv_istore hF.1 hF.2.1 d_M_suggest_21 hl (by decide) rfl (fun ls hl => ?_)
        have hl : lv_has ls 8 [(4, .int (nI (dist T u))), (3, .int (nI (i))), (0, .ref (ad (104))), (1, .int (i0)), (2, .int (dd))] := hl
        refine lv_iconst (v := (nI (0))) hF.1 hF.2.1 d_M_suggest_23 (by decide) ?_
        refine lv_istore hF.1 hF.2.1 d_M_suggest_24 hl (by decide) rfl (fun ls hl => ?_)
        have hl : lv_has ls 8 [(5, .int (nI (0))), (4, .int (nI (dist T u))), (3, .int (nI (i))), (0, .ref (ad (104))), (1, .int (i0)), (2, .int (dd))] := hl
        refine lv_iconst (v := (nI (0))) hF.1 hF.2.1 d_M_suggest_26 (by decide) ?_
        refine lv_istore hF.1 hF.2.1 d_M_suggest_27 hl (by decide) rfl (fun ls hl => ?_)
        have hl : lv_has ls 8 [(6, .int (nI (0))), (5, .int (nI (0))), (4, .int (nI (dist T u))), (3, .int (nI (i))), (0, .ref (ad (104))), (1, .int (i0)), (2, .int (dd))] := hl
        refine inner mw.length 0 0 i u en2 H locs ls hi (by omega) h2 hfr2 (by rw [List.take_zero]; rfl) (fun en1 H locs ls h1 hfr hl hZ => ?_) hl hZ
        have p1 := h1.1
        refine lv_iload hF.1 hF.2.1 d_M_suggest_77 (lv_at hl 2 rfl) ?_
        refine lv_iload_n hF.1 hF.2.1 d_M_suggest_79 rfl (lv_at hl 6 rfl) ?_
        refine lv_icmp_gt (tgt := 95) hF.1 hF.2.1 d_M_suggest_80 (by decide) (fun q => ?_) (fun q => ?_)
        · have q : ¬ nI (dist T u) ≤ dd := fun z => by
            rw [Int32.lt_iff_toInt_lt] at q; rw [Int32.le_iff_toInt_le] at z; exact absurd z (Int.not_le.mpr q)
          refine lv_iinc (k := 3) (v := (nI (i + 1))) hF.1 hF.2.1 d_M_suggest_95 hl rfl (iinc_p (i)) (by decide) rfl (fun ls hl => ?_)
          have hl : lv_has ls 8 [(3, .int (nI (i + 1))), (6, .int (nI (mw.length))), (5, .int (nI (mw.countP (fun v => decide (nI (dist T v) ≤ dd) && wd_bt (dist T) v u)))), (4, .int (nI (dist T u))), (0, .ref (ad (104))), (1, .int (i0)), (2, .int (dd))] := hl
          refine lv_goto (tgt := 2) hF.1 hF.2.1 d_M_suggest_98 (by decide) ?_
          refine ih (i + 1) en1 H locs ls (by omega) h1 hfr (fun k v hk hv qv => ?_) (lv_sub hl [0, 4, 5, 6] rfl) hZ
          by_cases y : k = i
          · subst y; cases hi.symm.trans hv; exact absurd qv q
          · exact hp k v (by omega) hv qv
        · have q : nI (dist T u) ≤ dd := by
            rw [Int32.le_iff_toInt_le]; exact Int.not_lt.mp (fun z => q (Int32.lt_iff_toInt_lt.mpr z))
          refine lv_iload hF.1 hF.2.1 d_M_suggest_83 (lv_at hl 1 rfl) ?_
          refine lv_iload_n hF.1 hF.2.1 d_M_suggest_85 rfl (lv_at hl 5 rfl) ?_
          refine lv_icmp_ne (tgt := 95) hF.1 hF.2.1 d_M_suggest_86 (by decide) (fun y2 => ?_) (fun y2 => ?_)
          · refine lv_iinc (k := 3) (v := (nI (i + 1))) hF.1 hF.2.1 d_M_suggest_95 hl rfl (iinc_p (i)) (by decide) rfl (fun ls hl => ?_)
            have hl : lv_has ls 8 [(3, .int (nI (i + 1))), (6, .int (nI (mw.length))), (5, .int (nI (mw.countP (fun v => decide (nI (dist T v) ≤ dd) && wd_bt (dist T) v u)))), (4, .int (nI (dist T u))), (0, .ref (ad (104))), (1, .int (i0)), (2, .int (dd))] := hl
            refine lv_goto (tgt := 2) hF.1 hF.2.1 d_M_suggest_98 (by decide) ?_
            refine ih (i + 1) en1 H locs ls (by omega) h1 hfr (fun k v hk hv qv => ?_) (lv_sub hl [0, 4, 5, 6] rfl) hZ
            by_cases y : k = i
            · subst y; cases hi.symm.trans hv; exact fun z => y2 z.symm
            · exact hp k v (by omega) hv qv
          · refine lv_aload_n hF.1 hF.2.1 d_M_suggest_89 rfl (lv_at hl 4 rfl) ?_
            refine lv_iload_n hF.1 hF.2.1 d_M_suggest_90 rfl (lv_at hl 3 rfl) ?_
            refine z_calli hZ (z_run cw_M_44 hF hZ (104) (c_M_rankOf l hN h1 hi) (by decide) (by omega) p1 rfl rfl hl.1 rfl (Nat.le_of_ble_eq_true rfl) d_M_suggest_91) (fun v enq H locs hp hZ => ?_)
            obtain ⟨he, hv⟩ := hp
            subst hv
            have hZ := hZ.to he
            exact z_iret hF hr hlocks hZ rfl ⟨h1, hfr, Or.inl ⟨j, u, hj, decide_eq_true q, by rw [hpm.countP_eq]; exact y2.symm, by rw [hrk]⟩⟩ d_M_suggest_94
  refine lv_iconst (v := (nI (0))) hF.1 hF.2.1 d_M_suggest_0 (by decide) ?_
  refine lv_istore_n hF.1 hF.2.1 d_M_suggest_1 rfl hl (by decide) rfl (fun ls hl => ?_)
  have hl : lv_has ls 8 [(3, .int (nI (0))), (0, .ref (ad (104))), (1, .int (i0)), (2, .int (dd))] := hl
  exact outer mw.length 0 en _ _ ls (by omega) h (fun _ _ => rfl) (fun k v hk => absurd hk (Nat.not_lt_zero _)) hl hZ
set_option maxHeartbeats 4000000 in
set_option maxRecDepth 100000 in
theorem c_M_complete (l : Launch) {G : zG} {ad : Nat → Nat} {en : Nat → va_E} {N : Nat} {T : List Nat} {mw : List wd_W} (hN : 111 ≤ N) (h : pM G ad en T mw) {C : List wd_W} (hpm : C.Perm mw) (hso : wd_so C) {i0 : Int32} : zMi l y_M_complete b_M_complete 5 .int 4 G ad en N [.ref (ad (104)), .int (i0)] (fun v en1 => en1 = en ∧ wd_sug C (fun _ => 0) (fun u => wpre u.1 T) i0 v) := by
  have hlen := hpm.length_eq
  have hh := h
  obtain ⟨p1, p2, p26, p3, ⟨ft, p4, p5⟩, ⟨fl, fs, fc, p6, p7, p8, p9⟩, ⟨fr, p10⟩, fj, p11⟩ := hh
  refine z_met (by decide) (Nat.le_of_ble_eq_true rfl) ?_
  intro p e s m below meth c ls hF hr hlocks hnam hZ hl
  have hF : CallFix p m c b_M_complete 5 s ([.ref (ad (104)), .int (i0)] : List Value).toArray zz R_M := hF
  have hl : lv_has ls 5 [(0, .ref (ad (104))), (1, .int (i0))] := hl
  have inner : ∀ (n x c0 w : Nat) (u : wd_W) (H : Heap) (locs : List Loc) (ls : Array Slot), mw[w]? = some u → x + n = mw.length → c0 = (mw.take x).countP (fun v => wpre v.1 T && wd_bt (fun _ => 0) v u) → (∀ (H : Heap) (locs : List Loc) (ls : Array Slot), lv_has ls 5 [(4, .int (nI (mw.length))), (3, .int (nI (mw.countP (fun v => wpre v.1 T && wd_bt (fun _ => 0) v u)))), (2, .int (nI (w))), (0, .ref (ad (104))), (1, .int (i0))] → zH G ad en N s H locs → W p l e (zR 4) s m ([.ref (ad (104)), .int (i0)] : List Value).toArray below meth c H locs 0 0 (MQ below (zQi G ad N (fun v en1 => en1 = en ∧ wd_sug C (fun _ => 0) (fun u => wpre u.1 T) i0 v)) ([.ref (ad (104)), .int (i0)] : List Value).toArray s 0 0 (zA G)) (F0 m 58 ls [])) → lv_has ls 5 [(4, .int (nI (x))), (3, .int (nI (c0))), (2, .int (nI (w))), (0, .ref (ad (104))), (1, .int (i0))] → zH G ad en N s H locs → W p l e (zR 4) s m ([.ref (ad (104)), .int (i0)] : List Value).toArray below meth c H locs 0 0 (MQ below (zQi G ad N (fun v en1 => en1 = en ∧ wd_sug C (fun _ => 0) (fun u => wpre u.1 T) i0 v)) ([.ref (ad (104)), .int (i0)] : List Value).toArray s 0 0 (zA G)) (F0 m 19 ls []) := by
    intro n
    induction n with
    | zero =>
      intro x c0 w u H locs ls hw hin hp K hl hZ
      have hx : x = mw.length := by omega
      subst hx
      rw [List.take_length] at hp
      subst hp
      refine lv_iload hF.1 hF.2.1 d_M_complete_19 (lv_at hl 0 rfl) ?_
      refine lv_aload_n hF.1 hF.2.1 d_M_complete_21 rfl (lv_at hl 3 rfl) ?_
      refine gf_M_37 hF hZ (104) (by omega) p1 rfl d_M_complete_22 ?_
      refine lv_icmp_ge (tgt := 58) hF.1 hF.2.1 d_M_complete_25 (by decide) (fun _ => ?_) (fun h => absurd (nI_le (Nat.le_refl _) (by omega)) h)
      exact K H locs ls hl hZ
    | succ n ih =>
      intro x c0 w u H locs ls hw hin hp K hl hZ
      obtain ⟨t, hx⟩ := wd_some (show x < mw.length by omega)
      have hct := wd_cnt_s (fun v => wpre v.1 T && wd_bt (fun _ => 0) v u) hx
      refine lv_iload hF.1 hF.2.1 d_M_complete_19 (lv_at hl 0 rfl) ?_
      refine lv_aload_n hF.1 hF.2.1 d_M_complete_21 rfl (lv_at hl 3 rfl) ?_
      refine gf_M_37 hF hZ (104) (by omega) p1 rfl d_M_complete_22 ?_
      refine lv_icmp_ge (tgt := 58) hF.1 hF.2.1 d_M_complete_25 (by decide) (fun h => absurd h (nI_ge (show x < mw.length by omega) (by omega))) (fun _ => ?_)
      refine lv_aload_n hF.1 hF.2.1 d_M_complete_28 rfl (lv_at hl 3 rfl) ?_
      refine lv_iload hF.1 hF.2.1 d_M_complete_29 (lv_at hl 0 rfl) ?_
      refine z_calli hZ (z_run cw_M_48 hF hZ (104) (c_M_beginsTyped l hN h hx) (by decide) (by omega) p1 rfl rfl hl.1 rfl (Nat.le_of_ble_eq_true rfl) d_M_complete_31) (fun v enq H locs hp hZ => ?_)
      obtain ⟨he, hv⟩ := hp
      subst hv
      have hZ := hZ.to he
      refine lv_if_eq (tgt := 52) hF.1 hF.2.1 d_M_complete_34 (by decide) (fun q => ?_) (fun q => ?_)
      · have q := bI_0.mp q
        refine lv_iinc (k := 0) (v := (nI (x + 1))) hF.1 hF.2.1 d_M_complete_52 hl rfl (iinc_p (x)) (by decide) rfl (fun ls hl => ?_)
        have hl : lv_has ls 5 [(4, .int (nI (x + 1))), (3, .int (nI (c0))), (2, .int (nI (w))), (0, .ref (ad (104))), (1, .int (i0))] := hl
        refine lv_goto (tgt := 19) hF.1 hF.2.1 d_M_complete_55 (by decide) ?_
        exact ih (x + 1) c0 w u H locs ls hw (by omega) (by rw [hct, q, ← hp]; rfl) K (lv_sub hl [0, 1, 2, 3, 4] rfl) hZ
      · have q := bI_1 q
        refine lv_aload_n hF.1 hF.2.1 d_M_complete_37 rfl (lv_at hl 3 rfl) ?_
        refine lv_iload hF.1 hF.2.1 d_M_complete_38 (lv_at hl 0 rfl) ?_
        refine lv_iconst (v := (nI (0))) hF.1 hF.2.1 d_M_complete_40 (by decide) ?_
        refine lv_iload_n hF.1 hF.2.1 d_M_complete_41 rfl (lv_at hl 2 rfl) ?_
        refine lv_iconst (v := (nI (0))) hF.1 hF.2.1 d_M_complete_42 (by decide) ?_
        refine z_calli hZ (z_run cw_M_68 hF hZ (104) (c_M_better l hN h hx hw (a := 0) (b := 0) (by omega) (by omega)) (by decide) (by omega) p1 rfl rfl hl.1 rfl (Nat.le_of_ble_eq_true rfl) d_M_complete_43) (fun v enq H locs hp hZ => ?_)
        obtain ⟨he, hv⟩ := hp
        subst hv
        have hZ := hZ.to he
        refine lv_if_eq (tgt := 52) hF.1 hF.2.1 d_M_complete_46 (by decide) (fun y => ?_) (fun y => ?_)
        · have y : wd_bt (fun _ => 0) t u = false := bI_0.mp y
          refine lv_iinc (k := 0) (v := (nI (x + 1))) hF.1 hF.2.1 d_M_complete_52 hl rfl (iinc_p (x)) (by decide) rfl (fun ls hl => ?_)
          have hl : lv_has ls 5 [(4, .int (nI (x + 1))), (3, .int (nI (c0))), (2, .int (nI (w))), (0, .ref (ad (104))), (1, .int (i0))] := hl
          refine lv_goto (tgt := 19) hF.1 hF.2.1 d_M_complete_55 (by decide) ?_
          exact ih (x + 1) c0 w u H locs ls hw (by omega) (by rw [hct, q, y, ← hp]; rfl) K (lv_sub hl [0, 1, 2, 3, 4] rfl) hZ
        · have y : wd_bt (fun _ => 0) t u = true := bI_1 y
          refine lv_iinc (k := 1) (v := (nI (c0 + 1))) hF.1 hF.2.1 d_M_complete_49 hl rfl (iinc_p (c0)) (by decide) rfl (fun ls hl => ?_)
          have hl : lv_has ls 5 [(3, .int (nI (c0 + 1))), (4, .int (nI (x))), (2, .int (nI (w))), (0, .ref (ad (104))), (1, .int (i0))] := hl
          refine lv_iinc (k := 1) (v := (nI (x + 1))) hF.1 hF.2.1 d_M_complete_52 hl rfl (iinc_p (x)) (by decide) rfl (fun ls hl => ?_)
          have hl : lv_has ls 5 [(4, .int (nI (x + 1))), (3, .int (nI (c0 + 1))), (2, .int (nI (w))), (0, .ref (ad (104))), (1, .int (i0))] := hl
          refine lv_goto (tgt := 19) hF.1 hF.2.1 d_M_complete_55 (by decide) ?_
          exact ih (x + 1) (c0 + 1) w u H locs ls hw (by omega) (by rw [hct, q, y, ← hp]; rfl) K (lv_sub hl [0, 1, 2, 3, 4] rfl) hZ
  have outer : ∀ (n i : Nat) (H : Heap) (locs : List Loc) (ls : Array Slot), (i + n = mw.length) → (∀ k v, k < i → mw[k]? = some v → wpre v.1 T = true → ¬ i0 = nI (mw.countP (fun v2 => wpre v2.1 T && wd_bt (fun _ => 0) v2 v))) → lv_has ls 5 [(2, .int (nI (i))), (0, .ref (ad (104))), (1, .int (i0))] → zH G ad en N s H locs → W p l e (zR 4) s m ([.ref (ad (104)), .int (i0)] : List Value).toArray below meth c H locs 0 0 (MQ below (zQi G ad N (fun v en1 => en1 = en ∧ wd_sug C (fun _ => 0) (fun u => wpre u.1 T) i0 v)) ([.ref (ad (104)), .int (i0)] : List Value).toArray s 0 0 (zA G)) (F0 m 2 ls []) := by
    intro n
    induction n with
    | zero =>
      intro i H locs ls hin hp hl hZ
      refine lv_iload_n hF.1 hF.2.1 d_M_complete_2 rfl (lv_at hl 0 rfl) ?_
      refine lv_aload_n hF.1 hF.2.1 d_M_complete_3 rfl (lv_at hl 1 rfl) ?_
      refine gf_M_37 hF hZ (104) (by omega) p1 rfl d_M_complete_4 ?_
      refine lv_icmp_ge (tgt := 83) hF.1 hF.2.1 d_M_complete_7 (by decide) (fun _ => ?_) (fun h => absurd (nI_le (by omega) (by omega)) h)
      refine lv_iconst (v := ((-1))) hF.1 hF.2.1 d_M_complete_83 (by decide) ?_
      refine z_iret hF hr hlocks hZ rfl ⟨rfl, Or.inr ⟨rfl, fun v hv qv => ?_⟩⟩ d_M_complete_84
      obtain ⟨k, hk⟩ := List.getElem?_of_mem (hpm.mem_iff.mp hv)
      rw [hpm.countP_eq]
      exact hp k v (by have := wd_lt_of hk; omega) hk qv
    | succ n ih =>
      intro i H locs ls hin hp hl hZ
      obtain ⟨u, hi⟩ := wd_some (show i < mw.length by omega)
      obtain ⟨j, hj, hrk⟩ := wd_rank2 hpm hso hi
      refine lv_iload_n hF.1 hF.2.1 d_M_complete_2 rfl (lv_at hl 0 rfl) ?_
      refine lv_aload_n hF.1 hF.2.1 d_M_complete_3 rfl (lv_at hl 1 rfl) ?_
      refine gf_M_37 hF hZ (104) (by omega) p1 rfl d_M_complete_4 ?_
      refine lv_icmp_ge (tgt := 83) hF.1 hF.2.1 d_M_complete_7 (by decide) (fun h => absurd h (nI_ge (show i < mw.length by omega) (by omega))) (fun _ => ?_)
      refine lv_iload_n hF.1 hF.2.1 d_M_complete_10 rfl (lv_at hl 2 rfl) ?_
      refine lv_if_lt (tgt := 83) hF.1 hF.2.1 d_M_complete_11 (by decide) (fun z0 => ?_) (fun z0 => ?_)
      · refine lv_iconst (v := ((-1))) hF.1 hF.2.1 d_M_complete_83 (by decide) ?_
        refine z_iret hF hr hlocks hZ rfl ⟨rfl, Or.inr ⟨rfl, fun v hv qv => ?_⟩⟩ d_M_complete_84
        intro z
        rw [z] at z0
        exact nI_pos (Nat.lt_of_le_of_lt List.countP_le_length (by omega)) z0
      · refine lv_iconst (v := (nI (0))) hF.1 hF.2.1 d_M_complete_14 (by decide) ?_
        refine lv_istore_n hF.1 hF.2.1 d_M_complete_15 rfl hl (by decide) rfl (fun ls hl => ?_)
        have hl : lv_has ls 5 [(3, .int (nI (0))), (2, .int (nI (i))), (0, .ref (ad (104))), (1, .int (i0))] := hl
        refine lv_iconst (v := (nI (0))) hF.1 hF.2.1 d_M_complete_16 (by decide) ?_
        refine lv_istore hF.1 hF.2.1 d_M_complete_17 hl (by decide) rfl (fun ls hl => ?_)
        have hl : lv_has ls 5 [(4, .int (nI (0))), (3, .int (nI (0))), (2, .int (nI (i))), (0, .ref (ad (104))), (1, .int (i0))] := hl
        refine inner mw.length 0 0 i u H locs ls hi (by omega) (by rw [List.take_zero]; rfl) (fun H locs ls hl hZ => ?_) hl hZ
        refine lv_aload_n hF.1 hF.2.1 d_M_complete_58 rfl (lv_at hl 3 rfl) ?_
        refine lv_iload_n hF.1 hF.2.1 d_M_complete_59 rfl (lv_at hl 2 rfl) ?_
        refine z_calli hZ (z_run cw_M_48 hF hZ (104) (c_M_beginsTyped l hN h hi) (by decide) (by omega) p1 rfl rfl hl.1 rfl (Nat.le_of_ble_eq_true rfl) d_M_complete_60) (fun v enq H locs hp hZ => ?_)
        obtain ⟨he, hv⟩ := hp
        subst hv
        have hZ := hZ.to he
        refine lv_if_eq (tgt := 77) hF.1 hF.2.1 d_M_complete_63 (by decide) (fun q => ?_) (fun q => ?_)
        · have q := bI_0.mp q
          refine lv_iinc (k := 2) (v := (nI (i + 1))) hF.1 hF.2.1 d_M_complete_77 hl rfl (iinc_p (i)) (by decide) rfl (fun ls hl => ?_)
          have hl : lv_has ls 5 [(2, .int (nI (i + 1))), (4, .int (nI (mw.length))), (3, .int (nI (mw.countP (fun v => wpre v.1 T && wd_bt (fun _ => 0) v u)))), (0, .ref (ad (104))), (1, .int (i0))] := hl
          refine lv_goto (tgt := 2) hF.1 hF.2.1 d_M_complete_80 (by decide) ?_
          refine ih (i + 1) H locs ls (by omega) (fun k v hk hv qv => ?_) (lv_sub hl [0, 3, 4] rfl) hZ
          by_cases y : k = i
          · subst y; cases hi.symm.trans hv; rw [q] at qv; cases qv
          · exact hp k v (by omega) hv qv
        · have q := bI_1 q
          refine lv_iload_n hF.1 hF.2.1 d_M_complete_66 rfl (lv_at hl 1 rfl) ?_
          refine lv_iload_n hF.1 hF.2.1 d_M_complete_67 rfl (lv_at hl 4 rfl) ?_
          refine lv_icmp_ne (tgt := 77) hF.1 hF.2.1 d_M_complete_68 (by decide) (fun y2 => ?_) (fun y2 => ?_)
          · refine lv_iinc (k := 2) (v := (nI (i + 1))) hF.1 hF.2.1 d_M_complete_77 hl rfl (iinc_p (i)) (by decide) rfl (fun ls hl => ?_)
            have hl : lv_has ls 5 [(2, .int (nI (i + 1))), (4, .int (nI (mw.length))), (3, .int (nI (mw.countP (fun v => wpre v.1 T && wd_bt (fun _ => 0) v u)))), (0, .ref (ad (104))), (1, .int (i0))] := hl
            refine lv_goto (tgt := 2) hF.1 hF.2.1 d_M_complete_80 (by decide) ?_
            refine ih (i + 1) H locs ls (by omega) (fun k v hk hv qv => ?_) (lv_sub hl [0, 3, 4] rfl) hZ
            by_cases y : k = i
            · subst y; cases hi.symm.trans hv; exact fun z => y2 z.symm
            · exact hp k v (by omega) hv qv
          · refine lv_aload_n hF.1 hF.2.1 d_M_complete_71 rfl (lv_at hl 3 rfl) ?_
            refine lv_iload_n hF.1 hF.2.1 d_M_complete_72 rfl (lv_at hl 2 rfl) ?_
            refine z_calli hZ (z_run cw_M_44 hF hZ (104) (c_M_rankOf l hN h hi) (by decide) (by omega) p1 rfl rfl hl.1 rfl (Nat.le_of_ble_eq_true rfl) d_M_complete_73) (fun v enq H locs hp hZ => ?_)
            obtain ⟨he, hv⟩ := hp
            subst hv
            have hZ := hZ.to he
            exact z_iret hF hr hlocks hZ rfl ⟨rfl, Or.inl ⟨j, u, hj, q, by rw [hpm.countP_eq]; exact y2.symm, by rw [hrk]⟩⟩ d_M_complete_76
  refine lv_iconst (v := (nI (0))) hF.1 hF.2.1 d_M_complete_0 (by decide) ?_
  refine lv_istore_n hF.1 hF.2.1 d_M_complete_1 rfl hl (by decide) rfl (fun ls hl => ?_)
  have hl : lv_has ls 5 [(2, .int (nI (0))), (0, .ref (ad (104))), (1, .int (i0))] := hl
  exact outer mw.length 0 _ _ ls (by omega) (fun k v hk => absurd hk (Nat.not_lt_zero _)) hl hZ
end
section
set_option maxHeartbeats 4000000 in
set_option maxRecDepth 100000 in
theorem c_M_next (l : Launch) {G : zG} {ad : Nat → Nat} {en : Nat → va_E} {N : Nat} {T : List Nat} {mw : List wd_W} (hN : 111 ≤ N) (h : pM G ad en T mw) {w : Nat} {u : wd_W} (hw : mw[w]? = some u) {x y d : Nat} (hx : x ≤ T.length) (hy : y ≤ u.1.length) (hd : d = ed_d T u.1 x y) : zMi l y_M_next b_M_next 9 .int 3 G ad en N [.ref (ad (104)), .int (nI (w)), .int (nI (x)), .int (nI (y)), .int (nI (d))] (fun v en1 => pM G ad en1 T mw ∧ (∀ r, r ≠ 109 → en1 r = en r) ∧ v = iv (if x = T.length ∧ y = u.1.length then 0 else ed_f T u.1 x y + 1)) := by
  have hh := h
  obtain ⟨p1, p2, p26, p3, ⟨ft, p4, p5⟩, ⟨fl, fs, fc, p6, p7, p8, p9⟩, ⟨fr, p10⟩, fj, p11⟩ := hh
  have hwl := wd_lt_of hw
  obtain ⟨u8, u26, ut, us, uc, ul⟩ := p9 w u hw
  have b0 := ed_18 hx hy p2 u8
  refine z_met (by decide) (Nat.le_of_ble_eq_true rfl) ?_
  intro p e s m below meth c ls hF hr hlocks hnam hZ hl
  have hF : CallFix p m c b_M_next 9 s ([.ref (ad (104)), .int (nI (w)), .int (nI (x)), .int (nI (y)), .int (nI (d))] : List Value).toArray zz R_M := hF
  have hl : lv_has ls 9 [(0, .ref (ad (104))), (1, .int (nI (w))), (2, .int (nI (x))), (3, .int (nI (y))), (4, .int (nI (d)))] := hl
  refine lv_iload_n hF.1 hF.2.1 d_M_next_0 rfl (lv_at hl 2 rfl) ?_
  refine lv_aload_n hF.1 hF.2.1 d_M_next_1 rfl (lv_at hl 0 rfl) ?_
  refine gf_M_29 hF hZ (104) (by omega) p1 rfl d_M_next_2 ?_
  refine lv_icmp_ge (tgt := 12) hF.1 hF.2.1 d_M_next_5 (by decide) (fun xm => ?_) (fun xm => ?_)
  · have xm : x = T.length := by have := (nI_leI (by omega) (by omega)).mp xm; omega
    refine lv_iconst (v := (nI (0))) hF.1 hF.2.1 d_M_next_12 (by decide) ?_
    refine lv_istore hF.1 hF.2.1 d_M_next_13 hl (by decide) rfl (fun ls hl => ?_)
    have hl : lv_has ls 9 [(5, .int (nI (0))), (0, .ref (ad (104))), (1, .int (nI (w))), (2, .int (nI (x))), (3, .int (nI (y))), (4, .int (nI (d)))] := hl
    refine lv_iload_n hF.1 hF.2.1 d_M_next_15 rfl (lv_at hl 4 rfl) ?_
    refine lv_aload_n hF.1 hF.2.1 d_M_next_16 rfl (lv_at hl 1 rfl) ?_
    refine gf_M_16 hF hZ (104) (by omega) p1 rfl d_M_next_17 ?_
    refine lv_iload_n hF.1 hF.2.1 d_M_next_20 rfl (lv_at hl 2 rfl) ?_
    refine z_iald hF hZ (107) (by omega) p7 (w) (by omega) (by omega) d_M_next_21 ?_
    refine z_top (y := (nI (u.1.length))) us ?_
    refine lv_icmp_ge (tgt := 29) hF.1 hF.2.1 d_M_next_22 (by decide) (fun yc => ?_) (fun yc => ?_)
    · have yc : y = u.1.length := by have := (nI_leI (by omega) (by omega)).mp yc; omega
      refine lv_iconst (v := (nI (0))) hF.1 hF.2.1 d_M_next_29 (by decide) ?_
      refine lv_istore hF.1 hF.2.1 d_M_next_30 hl (by decide) rfl (fun ls hl => ?_)
      have hl : lv_has ls 9 [(6, .int (nI (0))), (5, .int (nI (0))), (0, .ref (ad (104))), (1, .int (nI (w))), (2, .int (nI (x))), (3, .int (nI (y))), (4, .int (nI (d)))] := hl
      refine lv_iload hF.1 hF.2.1 d_M_next_32 (lv_at hl 1 rfl) ?_
      refine lv_if_eq (tgt := 112) hF.1 hF.2.1 d_M_next_34 (by decide) (fun _ => ?_) (fun h => absurd (by decide) h)
      refine lv_iload hF.1 hF.2.1 d_M_next_112 (lv_at hl 1 rfl) ?_
      refine lv_if_eq (tgt := 135) hF.1 hF.2.1 d_M_next_114 (by decide) (fun _ => ?_) (fun h => absurd (by decide) h)
      refine lv_iload hF.1 hF.2.1 d_M_next_135 (lv_at hl 0 rfl) ?_
      refine lv_if_eq (tgt := 158) hF.1 hF.2.1 d_M_next_137 (by decide) (fun _ => ?_) (fun h => absurd (by decide) h)
      refine lv_iconst (v := ((-1))) hF.1 hF.2.1 d_M_next_158 (by decide) ?_
      exact z_iret hF hr hlocks hZ rfl ⟨h, fun _ _ => rfl, by rw [if_pos ⟨xm, yc⟩]; exact iv_0.symm⟩ d_M_next_159
    · have yc : y < u.1.length := Nat.lt_of_not_le (fun z => yc (nI_le z (by omega)))
      refine lv_iconst (v := (nI (1))) hF.1 hF.2.1 d_M_next_25 (by decide) ?_
      refine lv_goto (tgt := 30) hF.1 hF.2.1 d_M_next_26 (by decide) ?_
      refine lv_istore hF.1 hF.2.1 d_M_next_30 hl (by decide) rfl (fun ls hl => ?_)
      have hl : lv_has ls 9 [(6, .int (nI (1))), (5, .int (nI (0))), (0, .ref (ad (104))), (1, .int (nI (w))), (2, .int (nI (x))), (3, .int (nI (y))), (4, .int (nI (d)))] := hl
      refine lv_iload hF.1 hF.2.1 d_M_next_32 (lv_at hl 1 rfl) ?_
      refine lv_if_eq (tgt := 112) hF.1 hF.2.1 d_M_next_34 (by decide) (fun _ => ?_) (fun h => absurd (by decide) h)
      refine lv_iload hF.1 hF.2.1 d_M_next_112 (lv_at hl 1 rfl) ?_
      refine lv_if_eq (tgt := 135) hF.1 hF.2.1 d_M_next_114 (by decide) (fun _ => ?_) (fun h => absurd (by decide) h)
      refine lv_iload hF.1 hF.2.1 d_M_next_135 (lv_at hl 0 rfl) ?_
      refine lv_if_eq (tgt := 158) hF.1 hF.2.1 d_M_next_137 (by decide) (fun h => absurd h (by decide)) (fun _ => ?_)
      refine lv_aload_n hF.1 hF.2.1 d_M_next_140 rfl (lv_at hl 2 rfl) ?_
      refine lv_iload_n hF.1 hF.2.1 d_M_next_141 rfl (lv_at hl 3 rfl) ?_
      refine lv_iload_n hF.1 hF.2.1 d_M_next_142 rfl (lv_at hl 4 rfl) ?_
      refine lv_iload_n hF.1 hF.2.1 d_M_next_143 rfl (lv_at hl 5 rfl) ?_
      refine lv_iconst (v := (nI (1))) hF.1 hF.2.1 d_M_next_144 (by decide) ?_
      refine lv_iadd hF.1 hF.2.1 d_M_next_145 ?_
      refine z_top (nI_add (y) (1)) ?_
      refine z_calli hZ (z_run cw_M_64 hF hZ (104) (c_M_far l hN h hw (i := x) (j := y + 1) (by omega) (by omega)) (by decide) (by omega) p1 rfl rfl hl.1 rfl (Nat.le_of_ble_eq_true rfl) d_M_next_146) (fun v en1 H locs hq hZ => ?_)
      obtain ⟨hv, ⟨f1, e9⟩, hq2⟩ := hq
      subst hv
      have h1 := h.k109 e9 hq2
      have hfr1 : ∀ r, r ≠ 109 → en1 r = en r := hq2
      have p1 := h1.1
      refine lv_iload hF.1 hF.2.1 d_M_next_149 (lv_at hl 6 rfl) ?_
      refine lv_iconst (v := (nI (1))) hF.1 hF.2.1 d_M_next_151 (by decide) ?_
      refine lv_isub hF.1 hF.2.1 d_M_next_152 ?_
      refine z_top (y := (iv d)) (show nI d - nI 1 = iv d from rfl) ?_
      have d1 := ed_d_i (w := u.1) (j := y) xm
      have d2 := ed_d_i (w := u.1) (j := y + 1) xm
      refine lv_icmp_ne (tgt := 158) hF.1 hF.2.1 d_M_next_153 (by decide) (fun h => absurd ((iv_nI (by omega) (by omega)).mpr (show d = ed_d T u.1 x (y + 1) + 1 by omega)).symm h) (fun _ => ?_)
      refine lv_iconst (v := (nI (3))) hF.1 hF.2.1 d_M_next_156 (by decide) ?_
      exact z_iret hF hr hlocks hZ rfl ⟨h1, hfr1, by rw [if_neg (fun z => by omega), iv_s]; unfold ed_f; rw [if_pos xm]⟩ d_M_next_157
  · have xm : x < T.length := Nat.lt_of_not_le (fun z => xm (nI_le z (by omega)))
    refine lv_iconst (v := (nI (1))) hF.1 hF.2.1 d_M_next_8 (by decide) ?_
    refine lv_goto (tgt := 13) hF.1 hF.2.1 d_M_next_9 (by decide) ?_
    refine lv_istore hF.1 hF.2.1 d_M_next_13 hl (by decide) rfl (fun ls hl => ?_)
    have hl : lv_has ls 9 [(5, .int (nI (1))), (0, .ref (ad (104))), (1, .int (nI (w))), (2, .int (nI (x))), (3, .int (nI (y))), (4, .int (nI (d)))] := hl
    refine lv_iload_n hF.1 hF.2.1 d_M_next_15 rfl (lv_at hl 4 rfl) ?_
    refine lv_aload_n hF.1 hF.2.1 d_M_next_16 rfl (lv_at hl 1 rfl) ?_
    refine gf_M_16 hF hZ (104) (by omega) p1 rfl d_M_next_17 ?_
    refine lv_iload_n hF.1 hF.2.1 d_M_next_20 rfl (lv_at hl 2 rfl) ?_
    refine z_iald hF hZ (107) (by omega) p7 (w) (by omega) (by omega) d_M_next_21 ?_
    refine z_top (y := (nI (u.1.length))) us ?_
    refine lv_icmp_ge (tgt := 29) hF.1 hF.2.1 d_M_next_22 (by decide) (fun yc => ?_) (fun yc => ?_)
    · have yc : y = u.1.length := by have := (nI_leI (by omega) (by omega)).mp yc; omega
      refine lv_iconst (v := (nI (0))) hF.1 hF.2.1 d_M_next_29 (by decide) ?_
      refine lv_istore hF.1 hF.2.1 d_M_next_30 hl (by decide) rfl (fun ls hl => ?_)
      have hl : lv_has ls 9 [(6, .int (nI (0))), (5, .int (nI (1))), (0, .ref (ad (104))), (1, .int (nI (w))), (2, .int (nI (x))), (3, .int (nI (y))), (4, .int (nI (d)))] := hl
      refine lv_iload hF.1 hF.2.1 d_M_next_32 (lv_at hl 1 rfl) ?_
      refine lv_if_eq (tgt := 112) hF.1 hF.2.1 d_M_next_34 (by decide) (fun h => absurd h (by decide)) (fun _ => ?_)
      refine lv_iload hF.1 hF.2.1 d_M_next_37 (lv_at hl 0 rfl) ?_
      refine lv_if_eq (tgt := 112) hF.1 hF.2.1 d_M_next_39 (by decide) (fun _ => ?_) (fun h => absurd (by decide) h)
      refine lv_iload hF.1 hF.2.1 d_M_next_112 (lv_at hl 1 rfl) ?_
      refine lv_if_eq (tgt := 135) hF.1 hF.2.1 d_M_next_114 (by decide) (fun h => absurd h (by decide)) (fun _ => ?_)
      refine lv_aload_n hF.1 hF.2.1 d_M_next_117 rfl (lv_at hl 2 rfl) ?_
      refine lv_iload_n hF.1 hF.2.1 d_M_next_118 rfl (lv_at hl 3 rfl) ?_
      refine lv_iload_n hF.1 hF.2.1 d_M_next_119 rfl (lv_at hl 4 rfl) ?_
      refine lv_iconst (v := (nI (1))) hF.1 hF.2.1 d_M_next_120 (by decide) ?_
      refine lv_iadd hF.1 hF.2.1 d_M_next_121 ?_
      refine z_top (nI_add (x) (1)) ?_
      refine lv_iload_n hF.1 hF.2.1 d_M_next_122 rfl (lv_at hl 5 rfl) ?_
      refine z_calli hZ (z_run cw_M_64 hF hZ (104) (c_M_far l hN h hw (i := x + 1) (j := y) (by omega) (by omega)) (by decide) (by omega) p1 rfl rfl hl.1 rfl (Nat.le_of_ble_eq_true rfl) d_M_next_123) (fun v en1 H locs hq hZ => ?_)
      obtain ⟨hv, ⟨f1, e9⟩, hq2⟩ := hq
      subst hv
      have h1 := h.k109 e9 hq2
      have hfr1 : ∀ r, r ≠ 109 → en1 r = en r := hq2
      have p1 := h1.1
      refine lv_iload hF.1 hF.2.1 d_M_next_126 (lv_at hl 6 rfl) ?_
      refine lv_iconst (v := (nI (1))) hF.1 hF.2.1 d_M_next_128 (by decide) ?_
      refine lv_isub hF.1 hF.2.1 d_M_next_129 ?_
      refine z_top (y := (iv d)) (show nI d - nI 1 = iv d from rfl) ?_
      have d1 := ed_d_j (t := T) (i := x) yc
      have d2 := ed_d_j (t := T) (i := x + 1) yc
      refine lv_icmp_ne (tgt := 135) hF.1 hF.2.1 d_M_next_130 (by decide) (fun h => absurd ((iv_nI (by omega) (by omega)).mpr (show d = ed_d T u.1 (x + 1) y + 1 by omega)).symm h) (fun _ => ?_)
      refine lv_iconst (v := (nI (2))) hF.1 hF.2.1 d_M_next_133 (by decide) ?_
      exact z_iret hF hr hlocks hZ rfl ⟨h1, hfr1, by rw [if_neg (fun z => by omega), iv_s]; unfold ed_f; rw [if_neg (by omega), if_pos yc]⟩ d_M_next_134
    · have yc : y < u.1.length := Nat.lt_of_not_le (fun z => yc (nI_le z (by omega)))
      refine lv_iconst (v := (nI (1))) hF.1 hF.2.1 d_M_next_25 (by decide) ?_
      refine lv_goto (tgt := 30) hF.1 hF.2.1 d_M_next_26 (by decide) ?_
      refine lv_istore hF.1 hF.2.1 d_M_next_30 hl (by decide) rfl (fun ls hl => ?_)
      have hl : lv_has ls 9 [(6, .int (nI (1))), (5, .int (nI (1))), (0, .ref (ad (104))), (1, .int (nI (w))), (2, .int (nI (x))), (3, .int (nI (y))), (4, .int (nI (d)))] := hl
      refine lv_iload hF.1 hF.2.1 d_M_next_32 (lv_at hl 1 rfl) ?_
      have c1 := ed_18 (xs := T) (ys := u.1) (i := x + 1) (j := y + 1) (by omega) (by omega) p2 u8
      have c2 := ed_18 (xs := T) (ys := u.1) (i := x + 1) (j := y) (by omega) (by omega) p2 u8
      have c3 := ed_18 (xs := T) (ys := u.1) (i := x) (j := y + 1) (by omega) (by omega) p2 u8
      have hs := ed_d_s (t := T) (w := u.1) xm yc
      have hne : ¬ (x = T.length ∧ y = u.1.length) := fun z => by omega
      have n1 : ¬ x = T.length := by omega
      have n2 : ¬ y = u.1.length := by omega
      have z1 := p26 x
      have z2 := u26 y
      subst hd
      refine lv_if_eq (tgt := 112) hF.1 hF.2.1 d_M_next_34 (by decide) (fun h => absurd h (by decide)) (fun _ => ?_)
      refine lv_iload hF.1 hF.2.1 d_M_next_37 (lv_at hl 0 rfl) ?_
      refine lv_if_eq (tgt := 112) hF.1 hF.2.1 d_M_next_39 (by decide) (fun h => absurd h (by decide)) (fun _ => ?_)
      refine lv_aload_n hF.1 hF.2.1 d_M_next_42 rfl (lv_at hl 2 rfl) ?_
      refine gf_M_7 hF hZ (104) (by omega) p1 rfl d_M_next_43 ?_
      refine lv_iload_n hF.1 hF.2.1 d_M_next_46 rfl (lv_at hl 4 rfl) ?_
      refine z_iald hF hZ (105) (by omega) p4 (x) (by omega) (by omega) d_M_next_47 ?_
      refine z_top (y := (nI (T.getD x 0))) (p5 x xm) ?_
      refine lv_aload_n hF.1 hF.2.1 d_M_next_48 rfl (lv_at hl 2 rfl) ?_
      refine gf_M_13 hF hZ (104) (by omega) p1 rfl d_M_next_49 ?_
      refine lv_bipush (v := (nI (8))) hF.1 hF.2.1 d_M_next_52 (by decide) ?_
      refine lv_iload_n hF.1 hF.2.1 d_M_next_54 rfl (lv_at hl 3 rfl) ?_
      refine lv_imul hF.1 hF.2.1 d_M_next_55 ?_
      refine z_top (pk_mul (8) (w)) ?_
      refine lv_iload_n hF.1 hF.2.1 d_M_next_56 rfl (lv_at hl 5 rfl) ?_
      refine lv_iadd hF.1 hF.2.1 d_M_next_57 ?_
      refine z_top (nI_add ((8) * (w)) (y)) ?_
      refine z_iald hF hZ (106) (by omega) p6 ((8) * (w) + y) (by omega) (by omega) d_M_next_58 ?_
      refine z_top (y := (nI (u.1.getD y 0))) (ul y yc) ?_
      refine lv_icmp_ne (tgt := 66) hF.1 hF.2.1 d_M_next_59 (by decide) (fun ee => ?_) (fun ee => ?_)
      · have ee : ¬ T.getD x 0 = u.1.getD y 0 := fun z => ee (by rw [z])
        rw [if_neg ee] at hs
        refine lv_iconst (v := (nI (0))) hF.1 hF.2.1 d_M_next_66 (by decide) ?_
        refine lv_istore hF.1 hF.2.1 d_M_next_67 hl (by decide) rfl (fun ls hl => ?_)
        have hl : lv_has ls 9 [(7, .int (nI (0))), (6, .int (nI (1))), (5, .int (nI (1))), (0, .ref (ad (104))), (1, .int (nI (w))), (2, .int (nI (x))), (3, .int (nI (y))), (4, .int (nI (ed_d T u.1 x y)))] := hl
        refine lv_aload_n hF.1 hF.2.1 d_M_next_69 rfl (lv_at hl 3 rfl) ?_
        refine lv_iload_n hF.1 hF.2.1 d_M_next_70 rfl (lv_at hl 4 rfl) ?_
        refine lv_iload_n hF.1 hF.2.1 d_M_next_71 rfl (lv_at hl 5 rfl) ?_
        refine lv_iconst (v := (nI (1))) hF.1 hF.2.1 d_M_next_72 (by decide) ?_
        refine lv_iadd hF.1 hF.2.1 d_M_next_73 ?_
        refine z_top (nI_add (x) (1)) ?_
        refine lv_iload_n hF.1 hF.2.1 d_M_next_74 rfl (lv_at hl 6 rfl) ?_
        refine lv_iconst (v := (nI (1))) hF.1 hF.2.1 d_M_next_75 (by decide) ?_
        refine lv_iadd hF.1 hF.2.1 d_M_next_76 ?_
        refine z_top (nI_add (y) (1)) ?_
        refine z_calli hZ (z_run cw_M_64 hF hZ (104) (c_M_far l hN h hw (i := x + 1) (j := y + 1) (by omega) (by omega)) (by decide) (by omega) p1 rfl rfl hl.1 rfl (Nat.le_of_ble_eq_true rfl) d_M_next_77) (fun v en1 H locs hq hZ => ?_)
        obtain ⟨hv, ⟨f1, e9⟩, hq2⟩ := hq
        subst hv
        have h1 := h.k109 e9 hq2
        have hfr1 : ∀ r, r ≠ 109 → en1 r = en r := hq2
        have p1 := h1.1
        refine lv_istore hF.1 hF.2.1 d_M_next_80 hl (by decide) rfl (fun ls hl => ?_)
        have hl : lv_has ls 9 [(8, .int (nI (ed_d T u.1 (x + 1) (y + 1)))), (7, .int (nI (0))), (6, .int (nI (1))), (5, .int (nI (1))), (0, .ref (ad (104))), (1, .int (nI (w))), (2, .int (nI (x))), (3, .int (nI (y))), (4, .int (nI (ed_d T u.1 x y)))] := hl
        refine lv_iload hF.1 hF.2.1 d_M_next_82 (lv_at hl 1 rfl) ?_
        refine lv_if_eq (tgt := 96) hF.1 hF.2.1 d_M_next_84 (by decide) (fun _ => ?_) (fun h => absurd (by decide) h)
        refine lv_iload hF.1 hF.2.1 d_M_next_96 (lv_at hl 1 rfl) ?_
        refine lv_if_ne (tgt := 112) hF.1 hF.2.1 d_M_next_98 (by decide) (fun h => absurd (by decide) h) (fun _ => ?_)
        refine lv_iload hF.1 hF.2.1 d_M_next_101 (lv_at hl 0 rfl) ?_
        refine lv_iload hF.1 hF.2.1 d_M_next_103 (lv_at hl 8 rfl) ?_
        refine lv_iconst (v := (nI (1))) hF.1 hF.2.1 d_M_next_105 (by decide) ?_
        refine lv_isub hF.1 hF.2.1 d_M_next_106 ?_
        refine z_top (y := (iv (ed_d T u.1 x y))) (show nI (ed_d T u.1 x y) - nI 1 = iv (ed_d T u.1 x y) from rfl) ?_
        refine lv_icmp_ne (tgt := 112) hF.1 hF.2.1 d_M_next_107 (by decide) (fun s1 => ?_) (fun s1 => ?_)
        · have s1 : ¬ ed_d T u.1 x y = 1 + ed_d T u.1 (x + 1) (y + 1) := fun z => s1 ((iv_nI (by omega) (by omega)).mpr (by omega)).symm
          refine lv_iload hF.1 hF.2.1 d_M_next_112 (lv_at hl 3 rfl) ?_
          refine lv_if_eq (tgt := 135) hF.1 hF.2.1 d_M_next_114 (by decide) (fun h => absurd h (by decide)) (fun _ => ?_)
          refine lv_aload_n hF.1 hF.2.1 d_M_next_117 rfl (lv_at hl 4 rfl) ?_
          refine lv_iload_n hF.1 hF.2.1 d_M_next_118 rfl (lv_at hl 5 rfl) ?_
          refine lv_iload_n hF.1 hF.2.1 d_M_next_119 rfl (lv_at hl 6 rfl) ?_
          refine lv_iconst (v := (nI (1))) hF.1 hF.2.1 d_M_next_120 (by decide) ?_
          refine lv_iadd hF.1 hF.2.1 d_M_next_121 ?_
          refine z_top (nI_add (x) (1)) ?_
          refine lv_iload_n hF.1 hF.2.1 d_M_next_122 rfl (lv_at hl 7 rfl) ?_
          refine z_calli hZ (z_run cw_M_64 hF hZ (104) (c_M_far l hN h1 hw (i := x + 1) (j := y) (by omega) (by omega)) (by decide) (by omega) p1 rfl rfl hl.1 rfl (Nat.le_of_ble_eq_true rfl) d_M_next_123) (fun v en2 H locs hq hZ => ?_)
          obtain ⟨hv, ⟨f2, e9⟩, hq2⟩ := hq
          subst hv
          have h2 := h1.k109 e9 hq2
          have hfr2 : ∀ r, r ≠ 109 → en2 r = en r := (fun r hr => (hq2 r hr).trans (hfr1 r hr))
          have p1 := h2.1
          refine lv_iload hF.1 hF.2.1 d_M_next_126 (lv_at hl 8 rfl) ?_
          refine lv_iconst (v := (nI (1))) hF.1 hF.2.1 d_M_next_128 (by decide) ?_
          refine lv_isub hF.1 hF.2.1 d_M_next_129 ?_
          refine z_top (y := (iv (ed_d T u.1 x y))) (show nI (ed_d T u.1 x y) - nI 1 = iv (ed_d T u.1 x y) from rfl) ?_
          refine lv_icmp_ne (tgt := 135) hF.1 hF.2.1 d_M_next_130 (by decide) (fun s2 => ?_) (fun s2 => ?_)
          · have s2 : ¬ ed_d T u.1 x y = 1 + ed_d T u.1 (x + 1) y := fun z => s2 ((iv_nI (by omega) (by omega)).mpr (by omega)).symm
            refine lv_iload hF.1 hF.2.1 d_M_next_135 (lv_at hl 2 rfl) ?_
            refine lv_if_eq (tgt := 158) hF.1 hF.2.1 d_M_next_137 (by decide) (fun h => absurd h (by decide)) (fun _ => ?_)
            refine lv_aload_n hF.1 hF.2.1 d_M_next_140 rfl (lv_at hl 4 rfl) ?_
            refine lv_iload_n hF.1 hF.2.1 d_M_next_141 rfl (lv_at hl 5 rfl) ?_
            refine lv_iload_n hF.1 hF.2.1 d_M_next_142 rfl (lv_at hl 6 rfl) ?_
            refine lv_iload_n hF.1 hF.2.1 d_M_next_143 rfl (lv_at hl 7 rfl) ?_
            refine lv_iconst (v := (nI (1))) hF.1 hF.2.1 d_M_next_144 (by decide) ?_
            refine lv_iadd hF.1 hF.2.1 d_M_next_145 ?_
            refine z_top (nI_add (y) (1)) ?_
            refine z_calli hZ (z_run cw_M_64 hF hZ (104) (c_M_far l hN h2 hw (i := x) (j := y + 1) (by omega) (by omega)) (by decide) (by omega) p1 rfl rfl hl.1 rfl (Nat.le_of_ble_eq_true rfl) d_M_next_146) (fun v en3 H locs hq hZ => ?_)
            obtain ⟨hv, ⟨f3, e9⟩, hq2⟩ := hq
            subst hv
            have h3 := h2.k109 e9 hq2
            have hfr3 : ∀ r, r ≠ 109 → en3 r = en r := (fun r hr => (hq2 r hr).trans (hfr2 r hr))
            have p1 := h3.1
            refine lv_iload hF.1 hF.2.1 d_M_next_149 (lv_at hl 8 rfl) ?_
            refine lv_iconst (v := (nI (1))) hF.1 hF.2.1 d_M_next_151 (by decide) ?_
            refine lv_isub hF.1 hF.2.1 d_M_next_152 ?_
            refine z_top (y := (iv (ed_d T u.1 x y))) (show nI (ed_d T u.1 x y) - nI 1 = iv (ed_d T u.1 x y) from rfl) ?_
            refine lv_icmp_ne (tgt := 158) hF.1 hF.2.1 d_M_next_153 (by decide) (fun h => absurd ((iv_nI (by omega) (by omega)).mpr (show ed_d T u.1 x y = ed_d T u.1 x (y + 1) + 1 by omega)).symm h) (fun _ => ?_)
            refine lv_iconst (v := (nI (3))) hF.1 hF.2.1 d_M_next_156 (by decide) ?_
            exact z_iret hF hr hlocks hZ rfl ⟨h3, hfr3, by rw [if_neg hne, iv_s]; unfold ed_f; rw [if_neg n1, if_neg n2, if_neg (fun z => ee z.1), if_neg (fun z => s1 z.2), if_neg s2]⟩ d_M_next_157
          · have s2 : ed_d T u.1 x y = 1 + ed_d T u.1 (x + 1) y := by have := (iv_nI (by omega) (by omega)).mp s2.symm; omega
            refine lv_iconst (v := (nI (2))) hF.1 hF.2.1 d_M_next_133 (by decide) ?_
            exact z_iret hF hr hlocks hZ rfl ⟨h2, hfr2, by rw [if_neg hne, iv_s]; unfold ed_f; rw [if_neg n1, if_neg n2, if_neg (fun z => ee z.1), if_neg (fun z => s1 z.2), if_pos s2]⟩ d_M_next_134
        · have s1 : ed_d T u.1 x y = 1 + ed_d T u.1 (x + 1) (y + 1) := by have := (iv_nI (by omega) (by omega)).mp s1.symm; omega
          refine lv_iconst (v := (nI (1))) hF.1 hF.2.1 d_M_next_110 (by decide) ?_
          exact z_iret hF hr hlocks hZ rfl ⟨h1, hfr1, by rw [if_neg hne, iv_s]; unfold ed_f; rw [if_neg n1, if_neg n2, if_neg (fun z => ee z.1), if_pos ⟨ee, s1⟩]⟩ d_M_next_111
      · have ee := (nI_eq (by omega) (by omega)).mp ee
        rw [if_pos ee] at hs
        refine lv_iconst (v := (nI (1))) hF.1 hF.2.1 d_M_next_62 (by decide) ?_
        refine lv_goto (tgt := 67) hF.1 hF.2.1 d_M_next_63 (by decide) ?_
        refine lv_istore hF.1 hF.2.1 d_M_next_67 hl (by decide) rfl (fun ls hl => ?_)
        have hl : lv_has ls 9 [(7, .int (nI (1))), (6, .int (nI (1))), (5, .int (nI (1))), (0, .ref (ad (104))), (1, .int (nI (w))), (2, .int (nI (x))), (3, .int (nI (y))), (4, .int (nI (ed_d T u.1 x y)))] := hl
        refine lv_aload_n hF.1 hF.2.1 d_M_next_69 rfl (lv_at hl 3 rfl) ?_
        refine lv_iload_n hF.1 hF.2.1 d_M_next_70 rfl (lv_at hl 4 rfl) ?_
        refine lv_iload_n hF.1 hF.2.1 d_M_next_71 rfl (lv_at hl 5 rfl) ?_
        refine lv_iconst (v := (nI (1))) hF.1 hF.2.1 d_M_next_72 (by decide) ?_
        refine lv_iadd hF.1 hF.2.1 d_M_next_73 ?_
        refine z_top (nI_add (x) (1)) ?_
        refine lv_iload_n hF.1 hF.2.1 d_M_next_74 rfl (lv_at hl 6 rfl) ?_
        refine lv_iconst (v := (nI (1))) hF.1 hF.2.1 d_M_next_75 (by decide) ?_
        refine lv_iadd hF.1 hF.2.1 d_M_next_76 ?_
        refine z_top (nI_add (y) (1)) ?_
        refine z_calli hZ (z_run cw_M_64 hF hZ (104) (c_M_far l hN h hw (i := x + 1) (j := y + 1) (by omega) (by omega)) (by decide) (by omega) p1 rfl rfl hl.1 rfl (Nat.le_of_ble_eq_true rfl) d_M_next_77) (fun v en1 H locs hq hZ => ?_)
        obtain ⟨hv, ⟨f1, e9⟩, hq2⟩ := hq
        subst hv
        have h1 := h.k109 e9 hq2
        have hfr1 : ∀ r, r ≠ 109 → en1 r = en r := hq2
        have p1 := h1.1
        refine lv_istore hF.1 hF.2.1 d_M_next_80 hl (by decide) rfl (fun ls hl => ?_)
        have hl : lv_has ls 9 [(8, .int (nI (ed_d T u.1 (x + 1) (y + 1)))), (7, .int (nI (1))), (6, .int (nI (1))), (5, .int (nI (1))), (0, .ref (ad (104))), (1, .int (nI (w))), (2, .int (nI (x))), (3, .int (nI (y))), (4, .int (nI (ed_d T u.1 x y)))] := hl
        refine lv_iload hF.1 hF.2.1 d_M_next_82 (lv_at hl 1 rfl) ?_
        refine lv_if_eq (tgt := 96) hF.1 hF.2.1 d_M_next_84 (by decide) (fun h => absurd h (by decide)) (fun _ => ?_)
        refine lv_iload hF.1 hF.2.1 d_M_next_87 (lv_at hl 0 rfl) ?_
        refine lv_iload hF.1 hF.2.1 d_M_next_89 (lv_at hl 8 rfl) ?_
        refine lv_icmp_ne (tgt := 96) hF.1 hF.2.1 d_M_next_91 (by decide) (fun s1 => ?_) (fun s1 => ?_)
        · have s1 : ¬ ed_d T u.1 x y = ed_d T u.1 (x + 1) (y + 1) := fun z => s1 (by rw [z])
          refine lv_iload hF.1 hF.2.1 d_M_next_96 (lv_at hl 1 rfl) ?_
          refine lv_if_ne (tgt := 112) hF.1 hF.2.1 d_M_next_98 (by decide) (fun _ => ?_) (fun h => absurd h (by decide))
          refine lv_iload hF.1 hF.2.1 d_M_next_112 (lv_at hl 3 rfl) ?_
          refine lv_if_eq (tgt := 135) hF.1 hF.2.1 d_M_next_114 (by decide) (fun h => absurd h (by decide)) (fun _ => ?_)
          refine lv_aload_n hF.1 hF.2.1 d_M_next_117 rfl (lv_at hl 4 rfl) ?_
          refine lv_iload_n hF.1 hF.2.1 d_M_next_118 rfl (lv_at hl 5 rfl) ?_
          refine lv_iload_n hF.1 hF.2.1 d_M_next_119 rfl (lv_at hl 6 rfl) ?_
          refine lv_iconst (v := (nI (1))) hF.1 hF.2.1 d_M_next_120 (by decide) ?_
          refine lv_iadd hF.1 hF.2.1 d_M_next_121 ?_
          refine z_top (nI_add (x) (1)) ?_
          refine lv_iload_n hF.1 hF.2.1 d_M_next_122 rfl (lv_at hl 7 rfl) ?_
          refine z_calli hZ (z_run cw_M_64 hF hZ (104) (c_M_far l hN h1 hw (i := x + 1) (j := y) (by omega) (by omega)) (by decide) (by omega) p1 rfl rfl hl.1 rfl (Nat.le_of_ble_eq_true rfl) d_M_next_123) (fun v en2 H locs hq hZ => ?_)
          obtain ⟨hv, ⟨f2, e9⟩, hq2⟩ := hq
          subst hv
          have h2 := h1.k109 e9 hq2
          have hfr2 : ∀ r, r ≠ 109 → en2 r = en r := (fun r hr => (hq2 r hr).trans (hfr1 r hr))
          have p1 := h2.1
          refine lv_iload hF.1 hF.2.1 d_M_next_126 (lv_at hl 8 rfl) ?_
          refine lv_iconst (v := (nI (1))) hF.1 hF.2.1 d_M_next_128 (by decide) ?_
          refine lv_isub hF.1 hF.2.1 d_M_next_129 ?_
          refine z_top (y := (iv (ed_d T u.1 x y))) (show nI (ed_d T u.1 x y) - nI 1 = iv (ed_d T u.1 x y) from rfl) ?_
          refine lv_icmp_ne (tgt := 135) hF.1 hF.2.1 d_M_next_130 (by decide) (fun s2 => ?_) (fun s2 => ?_)
          · have s2 : ¬ ed_d T u.1 x y = 1 + ed_d T u.1 (x + 1) y := fun z => s2 ((iv_nI (by omega) (by omega)).mpr (by omega)).symm
            refine lv_iload hF.1 hF.2.1 d_M_next_135 (lv_at hl 2 rfl) ?_
            refine lv_if_eq (tgt := 158) hF.1 hF.2.1 d_M_next_137 (by decide) (fun h => absurd h (by decide)) (fun _ => ?_)
            refine lv_aload_n hF.1 hF.2.1 d_M_next_140 rfl (lv_at hl 4 rfl) ?_
            refine lv_iload_n hF.1 hF.2.1 d_M_next_141 rfl (lv_at hl 5 rfl) ?_
            refine lv_iload_n hF.1 hF.2.1 d_M_next_142 rfl (lv_at hl 6 rfl) ?_
            refine lv_iload_n hF.1 hF.2.1 d_M_next_143 rfl (lv_at hl 7 rfl) ?_
            refine lv_iconst (v := (nI (1))) hF.1 hF.2.1 d_M_next_144 (by decide) ?_
            refine lv_iadd hF.1 hF.2.1 d_M_next_145 ?_
            refine z_top (nI_add (y) (1)) ?_
            refine z_calli hZ (z_run cw_M_64 hF hZ (104) (c_M_far l hN h2 hw (i := x) (j := y + 1) (by omega) (by omega)) (by decide) (by omega) p1 rfl rfl hl.1 rfl (Nat.le_of_ble_eq_true rfl) d_M_next_146) (fun v en3 H locs hq hZ => ?_)
            obtain ⟨hv, ⟨f3, e9⟩, hq2⟩ := hq
            subst hv
            have h3 := h2.k109 e9 hq2
            have hfr3 : ∀ r, r ≠ 109 → en3 r = en r := (fun r hr => (hq2 r hr).trans (hfr2 r hr))
            have p1 := h3.1
            refine lv_iload hF.1 hF.2.1 d_M_next_149 (lv_at hl 8 rfl) ?_
            refine lv_iconst (v := (nI (1))) hF.1 hF.2.1 d_M_next_151 (by decide) ?_
            refine lv_isub hF.1 hF.2.1 d_M_next_152 ?_
            refine z_top (y := (iv (ed_d T u.1 x y))) (show nI (ed_d T u.1 x y) - nI 1 = iv (ed_d T u.1 x y) from rfl) ?_
            refine lv_icmp_ne (tgt := 158) hF.1 hF.2.1 d_M_next_153 (by decide) (fun h => absurd ((iv_nI (by omega) (by omega)).mpr (show ed_d T u.1 x y = ed_d T u.1 x (y + 1) + 1 by omega)).symm h) (fun _ => ?_)
            refine lv_iconst (v := (nI (3))) hF.1 hF.2.1 d_M_next_156 (by decide) ?_
            exact z_iret hF hr hlocks hZ rfl ⟨h3, hfr3, by rw [if_neg hne, iv_s]; unfold ed_f; rw [if_neg n1, if_neg n2, if_neg (fun z => s1 z.2), if_neg (fun z => z.1 ee), if_neg s2]⟩ d_M_next_157
          · have s2 : ed_d T u.1 x y = 1 + ed_d T u.1 (x + 1) y := by have := (iv_nI (by omega) (by omega)).mp s2.symm; omega
            refine lv_iconst (v := (nI (2))) hF.1 hF.2.1 d_M_next_133 (by decide) ?_
            exact z_iret hF hr hlocks hZ rfl ⟨h2, hfr2, by rw [if_neg hne, iv_s]; unfold ed_f; rw [if_neg n1, if_neg n2, if_neg (fun z => s1 z.2), if_neg (fun z => z.1 ee), if_pos s2]⟩ d_M_next_134
        · have s1 : ed_d T u.1 x y = ed_d T u.1 (x + 1) (y + 1) := ((nI_eq (by omega) (by omega)).mp s1).symm
          refine lv_iconst (v := (nI (0))) hF.1 hF.2.1 d_M_next_94 (by decide) ?_
          exact z_iret hF hr hlocks hZ rfl ⟨h1, hfr1, by rw [if_neg hne, iv_s]; unfold ed_f; rw [if_neg n1, if_neg n2, if_pos ⟨ee, s1⟩]⟩ d_M_next_95
theorem eav_neg {xs ys : List Nat} {p : Int32} (h : p < 0) : eav xs ys p = 0 := if_pos h
theorem eav_big {xs ys : List Nat} {p : Int32} (hx : xs.length ≤ 10) (hy : ys.length ≤ 8) (h : nI 19 ≤ p) : eav xs ys p = 0 := by
  refine eav_0 (k := 19) (by omega) (fun j hj z => ?_) (ed_st_end xs ys (by omega))
  rw [z] at h
  have := (nI_leI (by omega) (by omega)).mp h
  omega
set_option maxHeartbeats 4000000 in
set_option maxRecDepth 100000 in
theorem c_M_edit (l : Launch) {G : zG} {ad : Nat → Nat} {en : Nat → va_E} {N : Nat} {T : List Nat} {mw : List wd_W} (hN : 111 ≤ N) (h : pM G ad en T mw) {C : List wd_W} (hpm : C.Perm mw) (hso : wd_so C) {k p0 : Int32} : zMi l y_M_edit b_M_edit 9 .int 5 G ad en N [.ref (ad (104)), .int (k), .int (p0)] (fun v en1 => pM G ad en1 T mw ∧ (∀ r, r ≠ 109 → en1 r = en r) ∧ ((∃ j u, C[j]? = some u ∧ k = nI j ∧ v = iv (eav T u.1 p0)) ∨ ((k < 0 ∨ nI C.length ≤ k) ∧ v = -1))) := by
  have hh := h
  obtain ⟨p1, p2, p26, p3, ⟨ft, p4, p5⟩, ⟨fl, fs, fc, p6, p7, p8, p9⟩, ⟨fr, p10⟩, fj, p11⟩ := hh
  refine z_met (by decide) (Nat.le_of_ble_eq_true rfl) ?_
  intro p e s m below meth c ls hF hr hlocks hnam hZ hl
  have hF : CallFix p m c b_M_edit 9 s ([.ref (ad (104)), .int (k), .int (p0)] : List Value).toArray zz R_M := hF
  have hl : lv_has ls 9 [(0, .ref (ad (104))), (1, .int (k)), (2, .int (p0))] := hl
  refine lv_aload_n hF.1 hF.2.1 d_M_edit_0 rfl (lv_at hl 0 rfl) ?_
  refine lv_iload_n hF.1 hF.2.1 d_M_edit_1 rfl (lv_at hl 1 rfl) ?_
  refine z_calli hZ (z_run cw_M_57 hF hZ (104) (c_M_place l hN h hpm hso) (by decide) (by omega) p1 rfl rfl hl.1 rfl (Nat.le_of_ble_eq_true rfl) d_M_edit_2) (fun v enq H locs hp hZ => ?_)
  obtain ⟨he, hd⟩ := hp
  have hZ := hZ.to he
  rcases hd with ⟨w, j, u, hw, hj, hk, hv⟩ | ⟨hv, hno⟩
  · subst hv
    have hwl := wd_lt_of hw
    obtain ⟨u8, u26, ut, us, uc, ul⟩ := p9 w u hw
    refine lv_istore_n hF.1 hF.2.1 d_M_edit_5 rfl hl (by decide) rfl (fun ls hl => ?_)
    have hl : lv_has ls 9 [(3, .int (nI (w))), (0, .ref (ad (104))), (1, .int (k)), (2, .int (p0))] := hl
    refine lv_iload_n hF.1 hF.2.1 d_M_edit_6 rfl (lv_at hl 0 rfl) ?_
    refine lv_if_lt (tgt := 20) hF.1 hF.2.1 d_M_edit_7 (by decide) (fun h => absurd h (nI_pos (by omega))) (fun _ => ?_)
    rcases pk_ix p0 (n := 19) (by omega) with h3 | h3 | ⟨q, hq, hpq⟩
    · refine lv_iload_n hF.1 hF.2.1 d_M_edit_10 rfl (lv_at hl 3 rfl) ?_
      refine lv_if_lt (tgt := 20) hF.1 hF.2.1 d_M_edit_11 (by decide) (fun _ => ?_) (fun h => absurd h3 h)
      refine lv_iconst (v := ((-1))) hF.1 hF.2.1 d_M_edit_20 (by decide) ?_
      exact z_iret hF hr hlocks hZ rfl ⟨h, fun _ _ => rfl, Or.inl ⟨j, u, hj, hk, by rw [eav_neg h3]; exact iv_0.symm⟩⟩ d_M_edit_21
    · have h4 : ¬ p0 < 0 := fun z => by
        rw [Int32.lt_iff_toInt_lt, Int32.toInt_zero] at z
        rw [Int32.le_iff_toInt_le, nI_toInt (by omega)] at h3
        omega
      refine lv_iload_n hF.1 hF.2.1 d_M_edit_10 rfl (lv_at hl 3 rfl) ?_
      refine lv_if_lt (tgt := 20) hF.1 hF.2.1 d_M_edit_11 (by decide) (fun h => absurd h h4) (fun _ => ?_)
      refine lv_iload_n hF.1 hF.2.1 d_M_edit_14 rfl (lv_at hl 3 rfl) ?_
      refine lv_bipush (v := (nI (18))) hF.1 hF.2.1 d_M_edit_15 (by decide) ?_
      refine lv_icmp_le (tgt := 22) hF.1 hF.2.1 d_M_edit_17 (by decide) (fun h => absurd h (fun z => by
            rw [Int32.le_iff_toInt_le, nI_toInt (by omega)] at z h3; omega)) (fun _ => ?_)
      refine lv_iconst (v := ((-1))) hF.1 hF.2.1 d_M_edit_20 (by decide) ?_
      exact z_iret hF hr hlocks hZ rfl ⟨h, fun _ _ => rfl, Or.inl ⟨j, u, hj, hk, by rw [eav_big p2 u8 h3]; exact iv_0.symm⟩⟩ d_M_edit_21
    · have loop : ∀ (r n : Nat) (en1 : Nat → va_E) (H : Heap) (locs : List Loc) (ls : Array Slot), (n + r = q) → (pM G ad en1 T mw) → (∀ r, r ≠ 109 → en1 r = en r) → lv_has ls 9 [(7, .int (nI (n))), (6, .int (nI (ed_d T u.1 (ed_st T u.1 n).1 (ed_st T u.1 n).2))), (5, .int (nI ((ed_st T u.1 n).2))), (4, .int (nI ((ed_st T u.1 n).1))), (3, .int (nI (w))), (0, .ref (ad (104))), (1, .int (k)), (2, .int (p0))] → zH G ad en1 N s H locs → W p l e (zR 5) s m ([.ref (ad (104)), .int (k), .int (p0)] : List Value).toArray below meth c H locs 0 0 (MQ below (zQi G ad N (fun v en1 => pM G ad en1 T mw ∧ (∀ r, r ≠ 109 → en1 r = en r) ∧ ((∃ j u, C[j]? = some u ∧ k = nI j ∧ v = iv (eav T u.1 p0)) ∨ ((k < 0 ∨ nI C.length ≤ k) ∧ v = -1)))) ([.ref (ad (104)), .int (k), .int (p0)] : List Value).toArray s 0 0 (zA G)) (F0 m 40 ls []) := by
        intro r
        induction r with
        | zero =>
          intro n en1 H locs ls hin h1 hfr hl hZ
          obtain ⟨s1, s2, -⟩ := ed_st_in T u.1 n
          have p1 := h1.1
          have hle : ¬ p0 < nI n := by rw [hpq]; exact nI_nlt (by omega) (by omega)
          refine lv_iload hF.1 hF.2.1 d_M_edit_40 (lv_at hl 0 rfl) ?_
          refine lv_iload_n hF.1 hF.2.1 d_M_edit_42 rfl (lv_at hl 7 rfl) ?_
          refine lv_icmp_gt (tgt := 105) hF.1 hF.2.1 d_M_edit_43 (by decide) (fun h => absurd h hle) (fun _ => ?_)
          refine lv_aload_n hF.1 hF.2.1 d_M_edit_46 rfl (lv_at hl 5 rfl) ?_
          refine lv_iload_n hF.1 hF.2.1 d_M_edit_47 rfl (lv_at hl 4 rfl) ?_
          refine lv_iload hF.1 hF.2.1 d_M_edit_48 (lv_at hl 3 rfl) ?_
          refine lv_iload hF.1 hF.2.1 d_M_edit_50 (lv_at hl 2 rfl) ?_
          refine lv_iload hF.1 hF.2.1 d_M_edit_52 (lv_at hl 1 rfl) ?_
          refine z_calli hZ (z_run cw_M_72 hF hZ (104) (c_M_next l hN h1 hw s1 s2 rfl) (by decide) (by omega) p1 rfl rfl hl.1 rfl (Nat.le_of_ble_eq_true rfl) d_M_edit_54) (fun v en2 H locs hq hZ => ?_)
          obtain ⟨h2, hq2, hv⟩ := hq
          have hfr2 : ∀ r, r ≠ 109 → en2 r = en r := fun r hr => (hq2 r hr).trans (hfr r hr)
          by_cases hend : (ed_st T u.1 n).1 = T.length ∧ (ed_st T u.1 n).2 = u.1.length
          · rw [if_pos hend, iv_0] at hv
            subst hv
            refine lv_istore hF.1 hF.2.1 d_M_edit_57 hl (by decide) rfl (fun ls hl => ?_)
            have hl : lv_has ls 9 [(8, .int ((-1))), (7, .int (nI (n))), (6, .int (nI (ed_d T u.1 (ed_st T u.1 n).1 (ed_st T u.1 n).2))), (5, .int (nI ((ed_st T u.1 n).2))), (4, .int (nI ((ed_st T u.1 n).1))), (3, .int (nI (w))), (0, .ref (ad (104))), (1, .int (k)), (2, .int (p0))] := hl
            refine lv_iload hF.1 hF.2.1 d_M_edit_59 (lv_at hl 0 rfl) ?_
            refine lv_if_lt (tgt := 70) hF.1 hF.2.1 d_M_edit_61 (by decide) (fun _ => ?_) (fun h => absurd (by decide) h)
            refine lv_iload hF.1 hF.2.1 d_M_edit_70 (lv_at hl 0 rfl) ?_
            exact z_iret hF hr hlocks hZ rfl ⟨h2, hfr2, Or.inl ⟨j, u, hj, hk, by rw [hpq, eav_0 (k := n) (by omega) (fun y hy z => by have := (nI_eq (by omega) (by omega)).mp z; omega) (Prod.ext hend.1 hend.2)]; exact iv_0.symm⟩⟩ d_M_edit_72
          · rw [if_neg hend, iv_s] at hv
            subst hv
            have hne : ¬ ed_st T u.1 n = (T.length, u.1.length) := fun z => hend (by rw [z]; exact ⟨rfl, rfl⟩)
            have hfl := ed_f_le T u.1 (ed_st T u.1 n).1 (ed_st T u.1 n).2
            obtain ⟨k0, k1, k2, k3⟩ := ed_f_ok s1 s2 hend
            refine lv_istore hF.1 hF.2.1 d_M_edit_57 hl (by decide) rfl (fun ls hl => ?_)
            have hl : lv_has ls 9 [(8, .int (nI (ed_f T u.1 (ed_st T u.1 n).1 (ed_st T u.1 n).2))), (7, .int (nI (n))), (6, .int (nI (ed_d T u.1 (ed_st T u.1 n).1 (ed_st T u.1 n).2))), (5, .int (nI ((ed_st T u.1 n).2))), (4, .int (nI ((ed_st T u.1 n).1))), (3, .int (nI (w))), (0, .ref (ad (104))), (1, .int (k)), (2, .int (p0))] := hl
            refine lv_iload hF.1 hF.2.1 d_M_edit_59 (lv_at hl 0 rfl) ?_
            refine lv_if_lt (tgt := 70) hF.1 hF.2.1 d_M_edit_61 (by decide) (fun h => absurd h (nI_pos (by omega))) (fun _ => ?_)
            refine lv_iload hF.1 hF.2.1 d_M_edit_64 (lv_at hl 1 rfl) ?_
            refine lv_iload_n hF.1 hF.2.1 d_M_edit_66 rfl (lv_at hl 8 rfl) ?_
            refine lv_icmp_ne (tgt := 73) hF.1 hF.2.1 d_M_edit_67 (by decide) (fun h => absurd (show nI n = p0 by rw [hpq, show n = q by omega]) h) (fun _ => ?_)
            refine lv_iload hF.1 hF.2.1 d_M_edit_70 (lv_at hl 0 rfl) ?_
            exact z_iret hF hr hlocks hZ rfl ⟨h2, hfr2, Or.inl ⟨j, u, hj, hk, by rw [hpq, show q = n by omega, eav_k (by omega) hne, iv_s]⟩⟩ d_M_edit_72
        | succ r ih =>
          intro n en1 H locs ls hin h1 hfr hl hZ
          obtain ⟨s1, s2, -⟩ := ed_st_in T u.1 n
          have p1 := h1.1
          have hle : ¬ p0 < nI n := by rw [hpq]; exact nI_nlt (by omega) (by omega)
          refine lv_iload hF.1 hF.2.1 d_M_edit_40 (lv_at hl 0 rfl) ?_
          refine lv_iload_n hF.1 hF.2.1 d_M_edit_42 rfl (lv_at hl 7 rfl) ?_
          refine lv_icmp_gt (tgt := 105) hF.1 hF.2.1 d_M_edit_43 (by decide) (fun h => absurd h hle) (fun _ => ?_)
          refine lv_aload_n hF.1 hF.2.1 d_M_edit_46 rfl (lv_at hl 5 rfl) ?_
          refine lv_iload_n hF.1 hF.2.1 d_M_edit_47 rfl (lv_at hl 4 rfl) ?_
          refine lv_iload hF.1 hF.2.1 d_M_edit_48 (lv_at hl 3 rfl) ?_
          refine lv_iload hF.1 hF.2.1 d_M_edit_50 (lv_at hl 2 rfl) ?_
          refine lv_iload hF.1 hF.2.1 d_M_edit_52 (lv_at hl 1 rfl) ?_
          refine z_calli hZ (z_run cw_M_72 hF hZ (104) (c_M_next l hN h1 hw s1 s2 rfl) (by decide) (by omega) p1 rfl rfl hl.1 rfl (Nat.le_of_ble_eq_true rfl) d_M_edit_54) (fun v en2 H locs hq hZ => ?_)
          obtain ⟨h2, hq2, hv⟩ := hq
          have hfr2 : ∀ r, r ≠ 109 → en2 r = en r := fun r hr => (hq2 r hr).trans (hfr r hr)
          by_cases hend : (ed_st T u.1 n).1 = T.length ∧ (ed_st T u.1 n).2 = u.1.length
          · rw [if_pos hend, iv_0] at hv
            subst hv
            refine lv_istore hF.1 hF.2.1 d_M_edit_57 hl (by decide) rfl (fun ls hl => ?_)
            have hl : lv_has ls 9 [(8, .int ((-1))), (7, .int (nI (n))), (6, .int (nI (ed_d T u.1 (ed_st T u.1 n).1 (ed_st T u.1 n).2))), (5, .int (nI ((ed_st T u.1 n).2))), (4, .int (nI ((ed_st T u.1 n).1))), (3, .int (nI (w))), (0, .ref (ad (104))), (1, .int (k)), (2, .int (p0))] := hl
            refine lv_iload hF.1 hF.2.1 d_M_edit_59 (lv_at hl 0 rfl) ?_
            refine lv_if_lt (tgt := 70) hF.1 hF.2.1 d_M_edit_61 (by decide) (fun _ => ?_) (fun h => absurd (by decide) h)
            refine lv_iload hF.1 hF.2.1 d_M_edit_70 (lv_at hl 0 rfl) ?_
            exact z_iret hF hr hlocks hZ rfl ⟨h2, hfr2, Or.inl ⟨j, u, hj, hk, by rw [hpq, eav_0 (k := n) (by omega) (fun y hy z => by have := (nI_eq (by omega) (by omega)).mp z; omega) (Prod.ext hend.1 hend.2)]; exact iv_0.symm⟩⟩ d_M_edit_72
          · rw [if_neg hend, iv_s] at hv
            subst hv
            have hne : ¬ ed_st T u.1 n = (T.length, u.1.length) := fun z => hend (by rw [z]; exact ⟨rfl, rfl⟩)
            have hfl := ed_f_le T u.1 (ed_st T u.1 n).1 (ed_st T u.1 n).2
            obtain ⟨k0, k1, k2, k3⟩ := ed_f_ok s1 s2 hend
            refine lv_istore hF.1 hF.2.1 d_M_edit_57 hl (by decide) rfl (fun ls hl => ?_)
            have hl : lv_has ls 9 [(8, .int (nI (ed_f T u.1 (ed_st T u.1 n).1 (ed_st T u.1 n).2))), (7, .int (nI (n))), (6, .int (nI (ed_d T u.1 (ed_st T u.1 n).1 (ed_st T u.1 n).2))), (5, .int (nI ((ed_st T u.1 n).2))), (4, .int (nI ((ed_st T u.1 n).1))), (3, .int (nI (w))), (0, .ref (ad (104))), (1, .int (k)), (2, .int (p0))] := hl
            refine lv_iload hF.1 hF.2.1 d_M_edit_59 (lv_at hl 0 rfl) ?_
            refine lv_if_lt (tgt := 70) hF.1 hF.2.1 d_M_edit_61 (by decide) (fun h => absurd h (nI_pos (by omega))) (fun _ => ?_)
            refine lv_iload hF.1 hF.2.1 d_M_edit_64 (lv_at hl 1 rfl) ?_
            refine lv_iload_n hF.1 hF.2.1 d_M_edit_66 rfl (lv_at hl 8 rfl) ?_
            refine lv_icmp_ne (tgt := 73) hF.1 hF.2.1 d_M_edit_67 (by decide) (fun _ => ?_) (fun h => absurd h (fun z => by rw [hpq] at z; have := (nI_eq (by omega) (by omega)).mp z; omega))
            have hst : ed_st T u.1 (n + 1) = ed_mv (ed_f T u.1 (ed_st T u.1 n).1 (ed_st T u.1 n).2) (ed_st T u.1 n) := by rw [ed_st, if_neg hne]
            have hcases : ed_f T u.1 (ed_st T u.1 n).1 (ed_st T u.1 n).2 = 0 ∨ ed_f T u.1 (ed_st T u.1 n).1 (ed_st T u.1 n).2 = 1 ∨ ed_f T u.1 (ed_st T u.1 n).1 (ed_st T u.1 n).2 = 2 ∨ ed_f T u.1 (ed_st T u.1 n).1 (ed_st T u.1 n).2 = 3 := by omega
            rcases hcases with hf | hf | hf | hf
            · have kk := k0 hf
              rw [hf] at hl hst
              have hst : ed_st T u.1 (n + 1) = ((ed_st T u.1 n).1 + 1, (ed_st T u.1 n).2 + 1) := hst
              have hl : lv_has ls 9 [(8, .int (nI (0))), (7, .int (nI (n))), (6, .int (nI (ed_d T u.1 (ed_st T u.1 n).1 (ed_st T u.1 n).2))), (5, .int (nI ((ed_st T u.1 n).2))), (4, .int (nI ((ed_st T u.1 n).1))), (3, .int (nI (w))), (0, .ref (ad (104))), (1, .int (k)), (2, .int (p0))] := hl
              refine lv_iload hF.1 hF.2.1 d_M_edit_73 (lv_at hl 0 rfl) ?_
              refine lv_if_le (tgt := 81) hF.1 hF.2.1 d_M_edit_75 (by decide) (fun _ => ?_) (fun h => absurd (by decide) h)
              refine lv_iload hF.1 hF.2.1 d_M_edit_81 (lv_at hl 0 rfl) ?_
              refine lv_iconst (v := (nI (3))) hF.1 hF.2.1 d_M_edit_83 (by decide) ?_
              refine lv_icmp_eq (tgt := 90) hF.1 hF.2.1 d_M_edit_84 (by decide) (fun h => absurd h (by decide)) (fun _ => ?_)
              refine lv_iinc (k := 4) (v := (nI ((ed_st T u.1 n).1 + 1))) hF.1 hF.2.1 d_M_edit_87 hl rfl (iinc_p ((ed_st T u.1 n).1)) (by decide) rfl (fun ls hl => ?_)
              have hl : lv_has ls 9 [(4, .int (nI ((ed_st T u.1 n).1 + 1))), (8, .int (nI (0))), (7, .int (nI (n))), (6, .int (nI (ed_d T u.1 (ed_st T u.1 n).1 (ed_st T u.1 n).2))), (5, .int (nI ((ed_st T u.1 n).2))), (3, .int (nI (w))), (0, .ref (ad (104))), (1, .int (k)), (2, .int (p0))] := hl
              refine lv_iload hF.1 hF.2.1 d_M_edit_90 (lv_at hl 1 rfl) ?_
              refine lv_iconst (v := (nI (2))) hF.1 hF.2.1 d_M_edit_92 (by decide) ?_
              refine lv_icmp_eq (tgt := 99) hF.1 hF.2.1 d_M_edit_93 (by decide) (fun h => absurd h (by decide)) (fun _ => ?_)
              refine lv_iinc (k := 4) (v := (nI ((ed_st T u.1 n).2 + 1))) hF.1 hF.2.1 d_M_edit_96 hl rfl (iinc_p ((ed_st T u.1 n).2)) (by decide) rfl (fun ls hl => ?_)
              have hl : lv_has ls 9 [(5, .int (nI ((ed_st T u.1 n).2 + 1))), (4, .int (nI ((ed_st T u.1 n).1 + 1))), (8, .int (nI (0))), (7, .int (nI (n))), (6, .int (nI (ed_d T u.1 (ed_st T u.1 n).1 (ed_st T u.1 n).2))), (3, .int (nI (w))), (0, .ref (ad (104))), (1, .int (k)), (2, .int (p0))] := hl
              refine lv_iinc (k := 3) (v := (nI (n + 1))) hF.1 hF.2.1 d_M_edit_99 hl rfl (iinc_p (n)) (by decide) rfl (fun ls hl => ?_)
              have hl : lv_has ls 9 [(7, .int (nI (n + 1))), (5, .int (nI ((ed_st T u.1 n).2 + 1))), (4, .int (nI ((ed_st T u.1 n).1 + 1))), (8, .int (nI (0))), (6, .int (nI (ed_d T u.1 (ed_st T u.1 n).1 (ed_st T u.1 n).2))), (3, .int (nI (w))), (0, .ref (ad (104))), (1, .int (k)), (2, .int (p0))] := hl
              refine lv_goto (tgt := 40) hF.1 hF.2.1 d_M_edit_102 (by decide) ?_
              exact ih (n + 1) en2 H locs ls (by omega) h2 hfr2 (by rw [hst]; show lv_has ls 9 [(7, .int (nI (n + 1))), (6, .int (nI (ed_d T u.1 ((ed_st T u.1 n).1 + 1) ((ed_st T u.1 n).2 + 1)))), (5, .int (nI ((ed_st T u.1 n).2 + 1))), (4, .int (nI ((ed_st T u.1 n).1 + 1))), (3, .int (nI (w))), (0, .ref (ad (104))), (1, .int (k)), (2, .int (p0))]; rw [show ed_d T u.1 ((ed_st T u.1 n).1 + 1) ((ed_st T u.1 n).2 + 1) = ed_d T u.1 (ed_st T u.1 n).1 (ed_st T u.1 n).2 by omega]; exact lv_sub hl [0, 4, 1, 2, 5, 6, 7, 8] rfl) hZ
            · have kk := k1 hf
              rw [hf] at hl hst
              have hst : ed_st T u.1 (n + 1) = ((ed_st T u.1 n).1 + 1, (ed_st T u.1 n).2 + 1) := hst
              have hl : lv_has ls 9 [(8, .int (nI (1))), (7, .int (nI (n))), (6, .int (nI (ed_d T u.1 (ed_st T u.1 n).1 (ed_st T u.1 n).2))), (5, .int (nI ((ed_st T u.1 n).2))), (4, .int (nI ((ed_st T u.1 n).1))), (3, .int (nI (w))), (0, .ref (ad (104))), (1, .int (k)), (2, .int (p0))] := hl
              refine lv_iload hF.1 hF.2.1 d_M_edit_73 (lv_at hl 0 rfl) ?_
              refine lv_if_le (tgt := 81) hF.1 hF.2.1 d_M_edit_75 (by decide) (fun h => absurd h (by decide)) (fun _ => ?_)
              refine lv_iinc (k := 2) (v := (nI (ed_d T u.1 ((ed_st T u.1 n).1 + 1) ((ed_st T u.1 n).2 + 1)))) hF.1 hF.2.1 d_M_edit_78 hl rfl (by rw [show ed_d T u.1 (ed_st T u.1 n).1 (ed_st T u.1 n).2 = ed_d T u.1 ((ed_st T u.1 n).1 + 1) ((ed_st T u.1 n).2 + 1) + 1 by omega]; exact iinc_q _) (by decide) rfl (fun ls hl => ?_)
              have hl : lv_has ls 9 [(6, .int (nI (ed_d T u.1 ((ed_st T u.1 n).1 + 1) ((ed_st T u.1 n).2 + 1)))), (8, .int (nI (1))), (7, .int (nI (n))), (5, .int (nI ((ed_st T u.1 n).2))), (4, .int (nI ((ed_st T u.1 n).1))), (3, .int (nI (w))), (0, .ref (ad (104))), (1, .int (k)), (2, .int (p0))] := hl
              refine lv_iload hF.1 hF.2.1 d_M_edit_81 (lv_at hl 1 rfl) ?_
              refine lv_iconst (v := (nI (3))) hF.1 hF.2.1 d_M_edit_83 (by decide) ?_
              refine lv_icmp_eq (tgt := 90) hF.1 hF.2.1 d_M_edit_84 (by decide) (fun h => absurd h (by decide)) (fun _ => ?_)
              refine lv_iinc (k := 4) (v := (nI ((ed_st T u.1 n).1 + 1))) hF.1 hF.2.1 d_M_edit_87 hl rfl (iinc_p ((ed_st T u.1 n).1)) (by decide) rfl (fun ls hl => ?_)
              have hl : lv_has ls 9 [(4, .int (nI ((ed_st T u.1 n).1 + 1))), (6, .int (nI (ed_d T u.1 ((ed_st T u.1 n).1 + 1) ((ed_st T u.1 n).2 + 1)))), (8, .int (nI (1))), (7, .int (nI (n))), (5, .int (nI ((ed_st T u.1 n).2))), (3, .int (nI (w))), (0, .ref (ad (104))), (1, .int (k)), (2, .int (p0))] := hl
              refine lv_iload hF.1 hF.2.1 d_M_edit_90 (lv_at hl 2 rfl) ?_
              refine lv_iconst (v := (nI (2))) hF.1 hF.2.1 d_M_edit_92 (by decide) ?_
              refine lv_icmp_eq (tgt := 99) hF.1 hF.2.1 d_M_edit_93 (by decide) (fun h => absurd h (by decide)) (fun _ => ?_)
              refine lv_iinc (k := 4) (v := (nI ((ed_st T u.1 n).2 + 1))) hF.1 hF.2.1 d_M_edit_96 hl rfl (iinc_p ((ed_st T u.1 n).2)) (by decide) rfl (fun ls hl => ?_)
              have hl : lv_has ls 9 [(5, .int (nI ((ed_st T u.1 n).2 + 1))), (4, .int (nI ((ed_st T u.1 n).1 + 1))), (6, .int (nI (ed_d T u.1 ((ed_st T u.1 n).1 + 1) ((ed_st T u.1 n).2 + 1)))), (8, .int (nI (1))), (7, .int (nI (n))), (3, .int (nI (w))), (0, .ref (ad (104))), (1, .int (k)), (2, .int (p0))] := hl
              refine lv_iinc (k := 4) (v := (nI (n + 1))) hF.1 hF.2.1 d_M_edit_99 hl rfl (iinc_p (n)) (by decide) rfl (fun ls hl => ?_)
              have hl : lv_has ls 9 [(7, .int (nI (n + 1))), (5, .int (nI ((ed_st T u.1 n).2 + 1))), (4, .int (nI ((ed_st T u.1 n).1 + 1))), (6, .int (nI (ed_d T u.1 ((ed_st T u.1 n).1 + 1) ((ed_st T u.1 n).2 + 1)))), (8, .int (nI (1))), (3, .int (nI (w))), (0, .ref (ad (104))), (1, .int (k)), (2, .int (p0))] := hl
              refine lv_goto (tgt := 40) hF.1 hF.2.1 d_M_edit_102 (by decide) ?_
              exact ih (n + 1) en2 H locs ls (by omega) h2 hfr2 (by rw [hst]; show lv_has ls 9 [(7, .int (nI (n + 1))), (6, .int (nI (ed_d T u.1 ((ed_st T u.1 n).1 + 1) ((ed_st T u.1 n).2 + 1)))), (5, .int (nI ((ed_st T u.1 n).2 + 1))), (4, .int (nI ((ed_st T u.1 n).1 + 1))), (3, .int (nI (w))), (0, .ref (ad (104))), (1, .int (k)), (2, .int (p0))]; exact lv_sub hl [0, 3, 1, 2, 5, 6, 7, 8] rfl) hZ
            · have kk := k2 hf
              rw [hf] at hl hst
              have hst : ed_st T u.1 (n + 1) = ((ed_st T u.1 n).1 + 1, (ed_st T u.1 n).2) := hst
              have hl : lv_has ls 9 [(8, .int (nI (2))), (7, .int (nI (n))), (6, .int (nI (ed_d T u.1 (ed_st T u.1 n).1 (ed_st T u.1 n).2))), (5, .int (nI ((ed_st T u.1 n).2))), (4, .int (nI ((ed_st T u.1 n).1))), (3, .int (nI (w))), (0, .ref (ad (104))), (1, .int (k)), (2, .int (p0))] := hl
              refine lv_iload hF.1 hF.2.1 d_M_edit_73 (lv_at hl 0 rfl) ?_
              refine lv_if_le (tgt := 81) hF.1 hF.2.1 d_M_edit_75 (by decide) (fun h => absurd h (by decide)) (fun _ => ?_)
              refine lv_iinc (k := 2) (v := (nI (ed_d T u.1 ((ed_st T u.1 n).1 + 1) ((ed_st T u.1 n).2)))) hF.1 hF.2.1 d_M_edit_78 hl rfl (by rw [show ed_d T u.1 (ed_st T u.1 n).1 (ed_st T u.1 n).2 = ed_d T u.1 ((ed_st T u.1 n).1 + 1) ((ed_st T u.1 n).2) + 1 by omega]; exact iinc_q _) (by decide) rfl (fun ls hl => ?_)
              have hl : lv_has ls 9 [(6, .int (nI (ed_d T u.1 ((ed_st T u.1 n).1 + 1) ((ed_st T u.1 n).2)))), (8, .int (nI (2))), (7, .int (nI (n))), (5, .int (nI ((ed_st T u.1 n).2))), (4, .int (nI ((ed_st T u.1 n).1))), (3, .int (nI (w))), (0, .ref (ad (104))), (1, .int (k)), (2, .int (p0))] := hl
              refine lv_iload hF.1 hF.2.1 d_M_edit_81 (lv_at hl 1 rfl) ?_
              refine lv_iconst (v := (nI (3))) hF.1 hF.2.1 d_M_edit_83 (by decide) ?_
              refine lv_icmp_eq (tgt := 90) hF.1 hF.2.1 d_M_edit_84 (by decide) (fun h => absurd h (by decide)) (fun _ => ?_)
              refine lv_iinc (k := 4) (v := (nI ((ed_st T u.1 n).1 + 1))) hF.1 hF.2.1 d_M_edit_87 hl rfl (iinc_p ((ed_st T u.1 n).1)) (by decide) rfl (fun ls hl => ?_)
              have hl : lv_has ls 9 [(4, .int (nI ((ed_st T u.1 n).1 + 1))), (6, .int (nI (ed_d T u.1 ((ed_st T u.1 n).1 + 1) ((ed_st T u.1 n).2)))), (8, .int (nI (2))), (7, .int (nI (n))), (5, .int (nI ((ed_st T u.1 n).2))), (3, .int (nI (w))), (0, .ref (ad (104))), (1, .int (k)), (2, .int (p0))] := hl
              refine lv_iload hF.1 hF.2.1 d_M_edit_90 (lv_at hl 2 rfl) ?_
              refine lv_iconst (v := (nI (2))) hF.1 hF.2.1 d_M_edit_92 (by decide) ?_
              refine lv_icmp_eq (tgt := 99) hF.1 hF.2.1 d_M_edit_93 (by decide) (fun _ => ?_) (fun h => absurd (by decide) h)
              refine lv_iinc (k := 3) (v := (nI (n + 1))) hF.1 hF.2.1 d_M_edit_99 hl rfl (iinc_p (n)) (by decide) rfl (fun ls hl => ?_)
              have hl : lv_has ls 9 [(7, .int (nI (n + 1))), (4, .int (nI ((ed_st T u.1 n).1 + 1))), (6, .int (nI (ed_d T u.1 ((ed_st T u.1 n).1 + 1) ((ed_st T u.1 n).2)))), (8, .int (nI (2))), (5, .int (nI ((ed_st T u.1 n).2))), (3, .int (nI (w))), (0, .ref (ad (104))), (1, .int (k)), (2, .int (p0))] := hl
              refine lv_goto (tgt := 40) hF.1 hF.2.1 d_M_edit_102 (by decide) ?_
              exact ih (n + 1) en2 H locs ls (by omega) h2 hfr2 (by rw [hst]; show lv_has ls 9 [(7, .int (nI (n + 1))), (6, .int (nI (ed_d T u.1 ((ed_st T u.1 n).1 + 1) ((ed_st T u.1 n).2)))), (5, .int (nI ((ed_st T u.1 n).2))), (4, .int (nI ((ed_st T u.1 n).1 + 1))), (3, .int (nI (w))), (0, .ref (ad (104))), (1, .int (k)), (2, .int (p0))]; exact lv_sub hl [0, 2, 4, 1, 5, 6, 7, 8] rfl) hZ
            · have kk := k3 hf
              rw [hf] at hl hst
              have hst : ed_st T u.1 (n + 1) = ((ed_st T u.1 n).1, (ed_st T u.1 n).2 + 1) := hst
              have hl : lv_has ls 9 [(8, .int (nI (3))), (7, .int (nI (n))), (6, .int (nI (ed_d T u.1 (ed_st T u.1 n).1 (ed_st T u.1 n).2))), (5, .int (nI ((ed_st T u.1 n).2))), (4, .int (nI ((ed_st T u.1 n).1))), (3, .int (nI (w))), (0, .ref (ad (104))), (1, .int (k)), (2, .int (p0))] := hl
              refine lv_iload hF.1 hF.2.1 d_M_edit_73 (lv_at hl 0 rfl) ?_
              refine lv_if_le (tgt := 81) hF.1 hF.2.1 d_M_edit_75 (by decide) (fun h => absurd h (by decide)) (fun _ => ?_)
              refine lv_iinc (k := 2) (v := (nI (ed_d T u.1 ((ed_st T u.1 n).1) ((ed_st T u.1 n).2 + 1)))) hF.1 hF.2.1 d_M_edit_78 hl rfl (by rw [show ed_d T u.1 (ed_st T u.1 n).1 (ed_st T u.1 n).2 = ed_d T u.1 ((ed_st T u.1 n).1) ((ed_st T u.1 n).2 + 1) + 1 by omega]; exact iinc_q _) (by decide) rfl (fun ls hl => ?_)
              have hl : lv_has ls 9 [(6, .int (nI (ed_d T u.1 ((ed_st T u.1 n).1) ((ed_st T u.1 n).2 + 1)))), (8, .int (nI (3))), (7, .int (nI (n))), (5, .int (nI ((ed_st T u.1 n).2))), (4, .int (nI ((ed_st T u.1 n).1))), (3, .int (nI (w))), (0, .ref (ad (104))), (1, .int (k)), (2, .int (p0))] := hl
              refine lv_iload hF.1 hF.2.1 d_M_edit_81 (lv_at hl 1 rfl) ?_
              refine lv_iconst (v := (nI (3))) hF.1 hF.2.1 d_M_edit_83 (by decide) ?_
              refine lv_icmp_eq (tgt := 90) hF.1 hF.2.1 d_M_edit_84 (by decide) (fun _ => ?_) (fun h => absurd (by decide) h)
              refine lv_iload hF.1 hF.2.1 d_M_edit_90 (lv_at hl 1 rfl) ?_
              refine lv_iconst (v := (nI (2))) hF.1 hF.2.1 d_M_edit_92 (by decide) ?_
              refine lv_icmp_eq (tgt := 99) hF.1 hF.2.1 d_M_edit_93 (by decide) (fun h => absurd h (by decide)) (fun _ => ?_)
              refine lv_iinc (k := 3) (v := (nI ((ed_st T u.1 n).2 + 1))) hF.1 hF.2.1 d_M_edit_96 hl rfl (iinc_p ((ed_st T u.1 n).2)) (by decide) rfl (fun ls hl => ?_)
              have hl : lv_has ls 9 [(5, .int (nI ((ed_st T u.1 n).2 + 1))), (6, .int (nI (ed_d T u.1 ((ed_st T u.1 n).1) ((ed_st T u.1 n).2 + 1)))), (8, .int (nI (3))), (7, .int (nI (n))), (4, .int (nI ((ed_st T u.1 n).1))), (3, .int (nI (w))), (0, .ref (ad (104))), (1, .int (k)), (2, .int (p0))] := hl
              refine lv_iinc (k := 3) (v := (nI (n + 1))) hF.1 hF.2.1 d_M_edit_99 hl rfl (iinc_p (n)) (by decide) rfl (fun ls hl => ?_)
              have hl : lv_has ls 9 [(7, .int (nI (n + 1))), (5, .int (nI ((ed_st T u.1 n).2 + 1))), (6, .int (nI (ed_d T u.1 ((ed_st T u.1 n).1) ((ed_st T u.1 n).2 + 1)))), (8, .int (nI (3))), (4, .int (nI ((ed_st T u.1 n).1))), (3, .int (nI (w))), (0, .ref (ad (104))), (1, .int (k)), (2, .int (p0))] := hl
              refine lv_goto (tgt := 40) hF.1 hF.2.1 d_M_edit_102 (by decide) ?_
              exact ih (n + 1) en2 H locs ls (by omega) h2 hfr2 (by rw [hst]; show lv_has ls 9 [(7, .int (nI (n + 1))), (6, .int (nI (ed_d T u.1 ((ed_st T u.1 n).1) ((ed_st T u.1 n).2 + 1)))), (5, .int (nI ((ed_st T u.1 n).2 + 1))), (4, .int (nI ((ed_st T u.1 n).1))), (3, .int (nI (w))), (0, .ref (ad (104))), (1, .int (k)), (2, .int (p0))]; exact lv_sub hl [0, 2, 1, 4, 5, 6, 7, 8] rfl) hZ
      refine lv_iload_n hF.1 hF.2.1 d_M_edit_10 rfl (lv_at hl 3 rfl) ?_
      refine lv_if_lt (tgt := 20) hF.1 hF.2.1 d_M_edit_11 (by decide) (fun h => absurd h (by rw [hpq]; exact nI_pos (by omega))) (fun _ => ?_)
      refine lv_iload_n hF.1 hF.2.1 d_M_edit_14 rfl (lv_at hl 3 rfl) ?_
      refine lv_bipush (v := (nI (18))) hF.1 hF.2.1 d_M_edit_15 (by decide) ?_
      refine lv_icmp_le (tgt := 22) hF.1 hF.2.1 d_M_edit_17 (by decide) (fun _ => ?_) (fun h => absurd (by rw [hpq]; exact nI_le (by omega) (by omega)) h)
      refine lv_iconst (v := (nI (0))) hF.1 hF.2.1 d_M_edit_22 (by decide) ?_
      refine lv_istore hF.1 hF.2.1 d_M_edit_23 hl (by decide) rfl (fun ls hl => ?_)
      have hl : lv_has ls 9 [(4, .int (nI (0))), (3, .int (nI (w))), (0, .ref (ad (104))), (1, .int (k)), (2, .int (p0))] := hl
      refine lv_iconst (v := (nI (0))) hF.1 hF.2.1 d_M_edit_25 (by decide) ?_
      refine lv_istore hF.1 hF.2.1 d_M_edit_26 hl (by decide) rfl (fun ls hl => ?_)
      have hl : lv_has ls 9 [(5, .int (nI (0))), (4, .int (nI (0))), (3, .int (nI (w))), (0, .ref (ad (104))), (1, .int (k)), (2, .int (p0))] := hl
      refine lv_aload_n hF.1 hF.2.1 d_M_edit_28 rfl (lv_at hl 3 rfl) ?_
      refine lv_iload_n hF.1 hF.2.1 d_M_edit_29 rfl (lv_at hl 2 rfl) ?_
      refine lv_iconst (v := (nI (0))) hF.1 hF.2.1 d_M_edit_30 (by decide) ?_
      refine lv_iconst (v := (nI (0))) hF.1 hF.2.1 d_M_edit_31 (by decide) ?_
      refine z_calli hZ (z_run cw_M_64 hF hZ (104) (c_M_far l hN h hw (i := 0) (j := 0) (Nat.zero_le _) (Nat.zero_le _)) (by decide) (by omega) p1 rfl rfl hl.1 rfl (Nat.le_of_ble_eq_true rfl) d_M_edit_32) (fun v en1 H locs hq hZ => ?_)
      obtain ⟨hv, ⟨f, e9⟩, hq2⟩ := hq
      subst hv
      refine lv_istore hF.1 hF.2.1 d_M_edit_35 hl (by decide) rfl (fun ls hl => ?_)
      have hl : lv_has ls 9 [(6, .int (nI (ed_d T u.1 0 0))), (5, .int (nI (0))), (4, .int (nI (0))), (3, .int (nI (w))), (0, .ref (ad (104))), (1, .int (k)), (2, .int (p0))] := hl
      refine lv_iconst (v := (nI (0))) hF.1 hF.2.1 d_M_edit_37 (by decide) ?_
      refine lv_istore hF.1 hF.2.1 d_M_edit_38 hl (by decide) rfl (fun ls hl => ?_)
      have hl : lv_has ls 9 [(7, .int (nI (0))), (6, .int (nI (ed_d T u.1 0 0))), (5, .int (nI (0))), (4, .int (nI (0))), (3, .int (nI (w))), (0, .ref (ad (104))), (1, .int (k)), (2, .int (p0))] := hl
      exact loop q 0 en1 H locs ls (by omega) (h.k109 e9 hq2) hq2 hl hZ
  · subst hv
    refine lv_istore_n hF.1 hF.2.1 d_M_edit_5 rfl hl (by decide) rfl (fun ls hl => ?_)
    have hl : lv_has ls 9 [(3, .int ((-1))), (0, .ref (ad (104))), (1, .int (k)), (2, .int (p0))] := hl
    refine lv_iload_n hF.1 hF.2.1 d_M_edit_6 rfl (lv_at hl 0 rfl) ?_
    refine lv_if_lt (tgt := 20) hF.1 hF.2.1 d_M_edit_7 (by decide) (fun _ => ?_) (fun h => absurd (by decide) h)
    refine lv_iconst (v := ((-1))) hF.1 hF.2.1 d_M_edit_20 (by decide) ?_
    exact z_iret hF hr hlocks hZ rfl ⟨h, fun _ _ => rfl, Or.inr ⟨hno, rfl⟩⟩ d_M_edit_21
end
