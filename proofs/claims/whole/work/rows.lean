section
/-! pure: the least cost of edits between two lists, from their ends; and the walk of edits -/
def ed_l : List Nat → List Nat → Nat
  | [], ys => ys.length
  | _ :: xs, [] => xs.length + 1
  | x :: xs, y :: ys => min (ed_l xs ys + if x = y then 0 else 1) (1 + min (ed_l xs (y :: ys)) (ed_l (x :: xs) ys))
termination_by xs ys => xs.length + ys.length
theorem ed_nil (ys : List Nat) : ed_l [] ys = ys.length := by rw [ed_l]
theorem ed_nilR (xs : List Nat) : ed_l xs [] = xs.length := by
  cases xs with
  | nil => rw [ed_l]
  | cons x xs => rw [ed_l]; rfl
theorem ed_cons (x : Nat) (xs : List Nat) (y : Nat) (ys : List Nat) : ed_l (x :: xs) (y :: ys) = min (ed_l xs ys + if x = y then 0 else 1) (1 + min (ed_l xs (y :: ys)) (ed_l (x :: xs) ys)) := by rw [ed_l]
/-- the cost from letter i of t on to letter j of w on -/
def ed_d (t w : List Nat) (i j : Nat) : Nat := ed_l (t.drop i) (w.drop j)
theorem ed_d_i {t w : List Nat} {i j : Nat} (h : i = t.length) : ed_d t w i j = w.length - j := by
  subst h; rw [ed_d, List.drop_length, ed_nil, List.length_drop]
theorem ed_d_j {t w : List Nat} {i j : Nat} (h : j = w.length) : ed_d t w i j = t.length - i := by
  subst h; rw [ed_d, List.drop_length, ed_nilR, List.length_drop]
theorem ed_getD {t : List Nat} {i : Nat} (h : i < t.length) : t.drop i = t.getD i 0 :: t.drop (i + 1) := by
  rw [List.drop_eq_getElem_cons h, List.getD_eq_getElem?_getD, List.getElem?_eq_getElem h]; rfl
theorem ed_d_s {t w : List Nat} {i j : Nat} (hi : i < t.length) (hj : j < w.length) : ed_d t w i j = min (ed_d t w (i + 1) (j + 1) + if t.getD i 0 = w.getD j 0 then 0 else 1) (1 + min (ed_d t w (i + 1) j) (ed_d t w i (j + 1))) := by
  have h := ed_cons (t.getD i 0) (t.drop (i + 1)) (w.getD j 0) (w.drop (j + 1))
  rw [← ed_getD hi, ← ed_getD hj] at h
  exact h
theorem ed_d_0 (t w : List Nat) : ed_d t w t.length w.length = 0 := by rw [ed_d_i rfl]; omega
theorem ed_d_le (t w : List Nat) : ∀ (n i j : Nat), t.length - i + (w.length - j) ≤ n → i ≤ t.length → j ≤ w.length → ed_d t w i j ≤ t.length - i + (w.length - j)
  | 0, i, j, h, hi, hj => by
    rw [ed_d_i (show i = t.length by omega)]; omega
  | n + 1, i, j, h, hi, hj => by
    rcases Nat.lt_or_ge i t.length with a | a
    · rcases Nat.lt_or_ge j w.length with b | b
      · rw [ed_d_s a b]
        have := ed_d_le t w n (i + 1) j (by omega) (by omega) hj
        omega
      · rw [ed_d_j (show j = w.length by omega)]; omega
    · rw [ed_d_i (show i = t.length by omega)]; omega
theorem ed_d_up (t w : List Nat) {i j : Nat} (hi : i ≤ t.length) (hj : j ≤ w.length) : ed_d t w i j ≤ t.length - i + (w.length - j) := ed_d_le t w _ i j (Nat.le_refl _) hi hj
theorem ed_d_dn {t w : List Nat} {i j : Nat} (hi : i < t.length) (hj : j ≤ w.length) : ed_d t w i j ≤ 1 + ed_d t w (i + 1) j := by
  rcases Nat.lt_or_ge j w.length with b | b
  · rw [ed_d_s hi b]; omega
  · rw [ed_d_j (show j = w.length by omega), ed_d_j (show j = w.length by omega)]; omega
theorem ed_d_rt {t w : List Nat} {i j : Nat} (hi : i ≤ t.length) (hj : j < w.length) : ed_d t w i j ≤ 1 + ed_d t w i (j + 1) := by
  rcases Nat.lt_or_ge i t.length with b | b
  · rw [ed_d_s b hj]; omega
  · rw [ed_d_i (show i = t.length by omega), ed_d_i (show i = t.length by omega)]; omega
theorem ed_d_dg {t w : List Nat} {i j : Nat} (hi : i < t.length) (hj : j < w.length) : ed_d t w i j ≤ 1 + ed_d t w (i + 1) (j + 1) := by
  rw [ed_d_s hi hj]; split <;> omega
theorem ed_d_eq {t w : List Nat} {i j : Nat} (hi : i < t.length) (hj : j < w.length) (h : t.getD i 0 = w.getD j 0) : ed_d t w i j ≤ ed_d t w (i + 1) (j + 1) := by
  rw [ed_d_s hi hj, if_pos h]; omega
/-- behind a place that is not the end: a free step, or a step that costs one -/
def ed_free (t w : List Nat) (i j : Nat) : Prop := i < t.length ∧ j < w.length ∧ t.getD i 0 = w.getD j 0 ∧ ed_d t w i j = ed_d t w (i + 1) (j + 1)
theorem ed_tight {t w : List Nat} {i j : Nat} (hi : i ≤ t.length) (hj : j ≤ w.length) (hne : ¬ (i = t.length ∧ j = w.length)) (hf : ¬ ed_free t w i j) :
    (i < t.length ∧ j < w.length ∧ ed_d t w i j = 1 + ed_d t w (i + 1) (j + 1)) ∨ (i < t.length ∧ ed_d t w i j = 1 + ed_d t w (i + 1) j) ∨ (j < w.length ∧ ed_d t w i j = 1 + ed_d t w i (j + 1)) := by
  rcases Nat.lt_or_ge i t.length with a | a
  · rcases Nat.lt_or_ge j w.length with b | b
    · have h := ed_d_s a b
      by_cases e : t.getD i 0 = w.getD j 0
      · rw [if_pos e] at h
        have : ¬ ed_d t w i j = ed_d t w (i + 1) (j + 1) := fun q => hf ⟨a, b, e, q⟩
        omega
      · rw [if_neg e] at h
        omega
    · right; left
      refine ⟨a, ?_⟩
      rw [ed_d_j (show j = w.length by omega), ed_d_j (show j = w.length by omega)]; omega
  · right; right
    refine ⟨by omega, ?_⟩
    rw [ed_d_i (show i = t.length by omega), ed_d_i (show i = t.length by omega)]; omega
/-- the first edit at (i, j): 0 keep, 1 change, 2 drop, 3 add -/
def ed_f (t w : List Nat) (i j : Nat) : Nat :=
  if i = t.length then 3 else if j = w.length then 2
  else if t.getD i 0 = w.getD j 0 ∧ ed_d t w i j = ed_d t w (i + 1) (j + 1) then 0
  else if t.getD i 0 ≠ w.getD j 0 ∧ ed_d t w i j = 1 + ed_d t w (i + 1) (j + 1) then 1
  else if ed_d t w i j = 1 + ed_d t w (i + 1) j then 2 else 3
def ed_mv (f : Nat) (q : Nat × Nat) : Nat × Nat := (if f = 3 then q.1 else q.1 + 1, if f = 2 then q.2 else q.2 + 1)
/-- where the walk stands behind k edits (it stays at the end) -/
def ed_st (t w : List Nat) : Nat → Nat × Nat
  | 0 => (0, 0)
  | k + 1 => if ed_st t w k = (t.length, w.length) then ed_st t w k else ed_mv (ed_f t w (ed_st t w k).1 (ed_st t w k).2) (ed_st t w k)
/-- the edit at step k, one more than its number; 0 behind the end -/
def ed_at (t w : List Nat) (k : Nat) : Nat := if ed_st t w k = (t.length, w.length) then 0 else ed_f t w (ed_st t w k).1 (ed_st t w k).2 + 1
theorem ed_f_le (t w : List Nat) (i j : Nat) : ed_f t w i j ≤ 3 := by
  unfold ed_f
  split
  · omega
  split
  · omega
  split
  · omega
  split
  · omega
  split <;> omega
/-- one edit leads on: the place stays inside, its sum grows, and the rest costs less by what the edit costs -/
theorem ed_f_ok {t w : List Nat} {i j : Nat} (hi : i ≤ t.length) (hj : j ≤ w.length) (hne : ¬ (i = t.length ∧ j = w.length)) :
    (ed_f t w i j = 0 → i < t.length ∧ j < w.length ∧ ed_d t w i j = ed_d t w (i + 1) (j + 1)) ∧ (ed_f t w i j = 1 → i < t.length ∧ j < w.length ∧ ed_d t w i j = 1 + ed_d t w (i + 1) (j + 1)) ∧ (ed_f t w i j = 2 → i < t.length ∧ ed_d t w i j = 1 + ed_d t w (i + 1) j) ∧ (ed_f t w i j = 3 → j < w.length ∧ ed_d t w i j = 1 + ed_d t w i (j + 1)) := by
  unfold ed_f
  by_cases a : i = t.length
  · rw [if_pos a]
    have h1 := ed_d_i (w := w) (j := j) a
    have h2 := ed_d_i (w := w) (j := j + 1) a
    refine ⟨fun q => ?_, fun q => ?_, fun q => ?_, fun _ => ?_⟩ <;> omega
  · rw [if_neg a]
    by_cases b : j = w.length
    · rw [if_pos b]
      have h1 := ed_d_j (t := t) (i := i) b
      have h2 := ed_d_j (t := t) (i := i + 1) b
      refine ⟨fun q => ?_, fun q => ?_, fun _ => ?_, fun q => ?_⟩ <;> omega
    · rw [if_neg b]
      have h := ed_d_s (t := t) (w := w) (i := i) (j := j) (by omega) (by omega)
      by_cases e : t.getD i 0 = w.getD j 0
      · rw [if_pos e] at h
        by_cases c1 : ed_d t w i j = ed_d t w (i + 1) (j + 1)
        · rw [if_pos ⟨e, c1⟩]
          refine ⟨fun _ => ?_, fun q => ?_, fun q => ?_, fun q => ?_⟩ <;> omega
        · rw [if_neg (fun q => c1 q.2), if_neg (fun q => q.1 e)]
          by_cases c2 : ed_d t w i j = 1 + ed_d t w (i + 1) j
          · rw [if_pos c2]; refine ⟨fun q => ?_, fun q => ?_, fun q => ?_, fun q => ?_⟩ <;> omega
          · rw [if_neg c2]; refine ⟨fun q => ?_, fun q => ?_, fun q => ?_, fun q => ?_⟩ <;> omega
      · rw [if_neg e] at h
        rw [if_neg (fun q => e q.1)]
        by_cases c1 : ed_d t w i j = 1 + ed_d t w (i + 1) (j + 1)
        · rw [if_pos ⟨e, c1⟩]
          refine ⟨fun q => ?_, fun _ => ?_, fun q => ?_, fun q => ?_⟩ <;> omega
        · rw [if_neg (fun q => c1 q.2)]
          by_cases c2 : ed_d t w i j = 1 + ed_d t w (i + 1) j
          · rw [if_pos c2]; refine ⟨fun q => ?_, fun q => ?_, fun q => ?_, fun q => ?_⟩ <;> omega
          · rw [if_neg c2]; refine ⟨fun q => ?_, fun q => ?_, fun q => ?_, fun q => ?_⟩ <;> omega
theorem ed_st_in (t w : List Nat) : ∀ k, (ed_st t w k).1 ≤ t.length ∧ (ed_st t w k).2 ≤ w.length ∧ (ed_st t w k = (t.length, w.length) ∨ k ≤ (ed_st t w k).1 + (ed_st t w k).2)
  | 0 => ⟨Nat.zero_le _, Nat.zero_le _, Or.inr (Nat.zero_le _)⟩
  | k + 1 => by
    obtain ⟨h1, h2, h3⟩ := ed_st_in t w k
    rw [ed_st]
    by_cases e : ed_st t w k = (t.length, w.length)
    · rw [if_pos e]; exact ⟨h1, h2, Or.inl e⟩
    · rw [if_neg e]
      have h3 : k ≤ (ed_st t w k).1 + (ed_st t w k).2 := h3.resolve_left e
      have hne : ¬ ((ed_st t w k).1 = t.length ∧ (ed_st t w k).2 = w.length) := fun q => e (Prod.ext q.1 q.2)
      obtain ⟨a0, a1, a2, a3⟩ := ed_f_ok h1 h2 hne
      have hle := ed_f_le t w (ed_st t w k).1 (ed_st t w k).2
      generalize ed_f t w (ed_st t w k).1 (ed_st t w k).2 = f at a0 a1 a2 a3 hle ⊢
      generalize ed_st t w k = q at h1 h2 h3 a0 a1 a2 a3 ⊢
      have hf : f = 0 ∨ f = 1 ∨ f = 2 ∨ f = 3 := by omega
      unfold ed_mv
      rcases hf with rfl | rfl | rfl | rfl
      · have := a0 rfl; exact ⟨by simp; omega, by simp; omega, Or.inr (by simp; omega)⟩
      · have := a1 rfl; exact ⟨by simp; omega, by simp; omega, Or.inr (by simp; omega)⟩
      · have := a2 rfl; exact ⟨by simp; omega, by simp; omega, Or.inr (by simp; omega)⟩
      · have := a3 rfl; exact ⟨by simp; omega, by simp; omega, Or.inr (by simp; omega)⟩
theorem ed_st_end (t w : List Nat) {k : Nat} (h : t.length + w.length ≤ k) : ed_st t w k = (t.length, w.length) := by
  obtain ⟨h1, h2, h3⟩ := ed_st_in t w k
  rcases h3 with h3 | h3
  · exact h3
  · exact Prod.ext (by simp; omega) (by simp; omega)
theorem ed_st_stay (t w : List Nat) {k : Nat} (h : ed_st t w k = (t.length, w.length)) : ∀ n, ed_st t w (k + n) = (t.length, w.length)
  | 0 => h
  | n + 1 => by rw [← Nat.add_assoc, ed_st, if_pos (ed_st_stay t w h n), ed_st_stay t w h n]
theorem ed_at_end {t w : List Nat} {k j : Nat} (h : ed_st t w k = (t.length, w.length)) (hj : k ≤ j) : ed_at t w j = 0 := by
  obtain ⟨n, rfl⟩ : ∃ n, j = k + n := ⟨j - k, by omega⟩
  rw [ed_at, if_pos (ed_st_stay t w h n)]
/-! the flood: rho p = 0 where p isn't reached, c + 1 where it was reached at cost c; p = 9 x + y -/
def bf_ok (t w : List Nat) (ds b : Nat) (rho : Nat → Nat) : Prop := ∀ p, p < 99 → rho p ≠ 0 → p / 9 ≤ t.length ∧ p % 9 ≤ w.length ∧ rho p ≤ b ∧ ds + 1 ≤ rho p + ed_d t w (p / 9) (p % 9)
def bf_at (t w : List Nat) (ds c : Nat) (rho : Nat → Nat) (p : Nat) : Prop := p < 99 ∧ rho p = c + 1 ∧ ed_d t w (p / 9) (p % 9) + c = ds
/-- the first pass at place q: a best place is still to come, or stands with no free step -/
def bf_1 (t w : List Nat) (ds c q : Nat) (rho : Nat → Nat) : Prop := ∃ p, bf_at t w ds c rho p ∧ (q ≤ p ∨ ¬ ed_free t w (p / 9) (p % 9))
/-- the second pass at place q -/
def bf_2 (t w : List Nat) (ds c q : Nat) (rho : Nat → Nat) : Prop := (∃ p, bf_at t w ds c rho p ∧ q ≤ p ∧ ¬ ed_free t w (p / 9) (p % 9) ∧ ¬ p = 9 * t.length + w.length) ∨ ∃ p, bf_at t w ds (c + 1) rho p
def bf_r (rho : Nat → Nat) (p c : Nat) : Nat → Nat := fun j => if j = p ∧ rho p = 0 then c + 1 else rho j
theorem bf_r_old {rho : Nat → Nat} {p c j : Nat} (h : rho j ≠ 0) : bf_r rho p c j = rho j := by
  unfold bf_r; split
  · next q => exact absurd (q.1 ▸ q.2) h
  · rfl
theorem bf_r_new {rho : Nat → Nat} {p c : Nat} (h : rho p = 0) : bf_r rho p c p = c + 1 := by unfold bf_r; rw [if_pos ⟨rfl, h⟩]
theorem bf_r_no {rho : Nat → Nat} {p c : Nat} (h : rho p ≠ 0) : bf_r rho p c = rho := by
  funext j; unfold bf_r; rw [if_neg (fun q => h q.2)]
theorem bf_r_ne {rho : Nat → Nat} {p c j : Nat} (h : j ≠ p) : bf_r rho p c j = rho j := by unfold bf_r; rw [if_neg (fun q => h q.1)]
theorem bf_ok_r {t w : List Nat} {ds b c p : Nat} {rho : Nat → Nat} (h : bf_ok t w ds b rho) (hx : p / 9 ≤ t.length) (hy : p % 9 ≤ w.length) (hb : c + 1 ≤ b) (hd : ds ≤ c + ed_d t w (p / 9) (p % 9)) : bf_ok t w ds b (bf_r rho p c) := by
  intro j hj hn
  by_cases e : j = p
  · subst e
    by_cases z : rho j = 0
    · rw [bf_r_new z]; exact ⟨hx, hy, hb, by omega⟩
    · rw [bf_r_no z]; exact h j hj z
  · rw [bf_r_ne e] at hn ⊢; exact h j hj hn
theorem bf_at_r {t w : List Nat} {ds c c' p q : Nat} {rho : Nat → Nat} (h : bf_at t w ds c rho p) : bf_at t w ds c (bf_r rho q c') p := by
  obtain ⟨a, b, d⟩ := h
  exact ⟨a, by rw [bf_r_old (by omega)]; exact b, d⟩
/-- a place that is reached at cost c, and from which the rest costs ds - c -/
theorem bf_hit {t w : List Nat} {ds b c p : Nat} {rho : Nat → Nat} (h : bf_ok t w ds b rho) (hb : b ≤ c + 1) (hp : p < 99) (hd : ed_d t w (p / 9) (p % 9) + c = ds) : bf_at t w ds c (bf_r rho p c) p := by
  refine ⟨hp, ?_, hd⟩
  by_cases z : rho p = 0
  · exact bf_r_new z
  · rw [bf_r_no z]
    have := h p hp z
    omega
theorem bf_10 {p m : Nat} (h : p % 9 < m) (hm : m ≤ 8) : (p + 10) / 9 = p / 9 + 1 ∧ (p + 10) % 9 = p % 9 + 1 := by omega
theorem bf_9 (p : Nat) : (p + 9) / 9 = p / 9 + 1 ∧ (p + 9) % 9 = p % 9 := by omega
theorem bf_01 {p m : Nat} (h : p % 9 < m) (hm : m ≤ 8) : (p + 1) / 9 = p / 9 ∧ (p + 1) % 9 = p % 9 + 1 := by omega
/-- the first pass, one place on -/
theorem bf_1s {t w : List Nat} {ds c q : Nat} {rho : Nat → Nat} (hw : w.length ≤ 8) (ht : t.length ≤ 10) (hok : bf_ok t w ds (c + 1) rho) (h : bf_1 t w ds c q rho) (hq : q < 99)
    (hr : rho q = c + 1) (hx : q / 9 < t.length) (hy : q % 9 < w.length) (he : t.getD (q / 9) 0 = w.getD (q % 9) 0) : bf_ok t w ds (c + 1) (bf_r rho (q + 10) c) ∧ bf_1 t w ds c (q + 1) (bf_r rho (q + 10) c) := by
  obtain ⟨x1, x2⟩ := bf_10 hy hw
  have hle := ed_d_eq hx hy he
  have hq2 := hok q hq (by omega)
  have ok2 : bf_ok t w ds (c + 1) (bf_r rho (q + 10) c) := bf_ok_r hok (by omega) (by omega) (by omega) (by rw [x1, x2]; omega)
  refine ⟨ok2, ?_⟩
  obtain ⟨p, hp, hor⟩ := h
  by_cases e : p = q
  · subst e
    by_cases f : ed_free t w (p / 9) (p % 9)
    · refine ⟨p + 10, bf_hit hok (by omega) (by omega) ?_, Or.inl (by omega)⟩
      rw [x1, x2, ← f.2.2.2]; exact hp.2.2
    · exact ⟨p, bf_at_r hp, Or.inr f⟩
  · refine ⟨p, bf_at_r hp, ?_⟩
    rcases hor with h | h
    · exact Or.inl (by omega)
    · exact Or.inr h
theorem bf_1n {t w : List Nat} {ds c q : Nat} {rho : Nat → Nat} (h : bf_1 t w ds c q rho) (hn : ¬ (rho q = c + 1 ∧ q / 9 < t.length ∧ q % 9 < w.length ∧ t.getD (q / 9) 0 = w.getD (q % 9) 0)) : bf_1 t w ds c (q + 1) rho := by
  obtain ⟨p, hp, hor⟩ := h
  by_cases e : p = q
  · subst e
    exact ⟨p, hp, Or.inr fun f => hn ⟨hp.2.1, f.1, f.2.1, f.2.2.1⟩⟩
  · refine ⟨p, hp, ?_⟩
    rcases hor with h | h
    · exact Or.inl (by omega)
    · exact Or.inr h
/-- behind the first pass: the end is reached at this cost, and that is the least; or not -/
theorem bf_mid {t w : List Nat} {ds c : Nat} {rho : Nat → Nat} (hw : w.length ≤ 8) (ht : t.length ≤ 10) (hok : bf_ok t w ds (c + 1) rho) (h : bf_1 t w ds c 99 rho) : (rho (9 * t.length + w.length) = c + 1 → c = ds) ∧ (rho (9 * t.length + w.length) ≠ c + 1 → bf_2 t w ds c 0 rho ∧ c < ds) := by
  obtain ⟨p, hp, hor⟩ := h
  have hf : ¬ ed_free t w (p / 9) (p % 9) := by
    rcases hor with h | h
    · exact absurd hp.1 (by omega)
    · exact h
  have hpr := hok p hp.1 (by have := hp.2.1; omega)
  have d1 : (9 * t.length + w.length) / 9 = t.length := by omega
  have d2 : (9 * t.length + w.length) % 9 = w.length := by omega
  refine ⟨fun e => ?_, fun e => ?_⟩
  · have := hok _ (by omega) (show rho (9 * t.length + w.length) ≠ 0 by omega)
    rw [d1, d2, ed_d_0] at this
    have := hp.2.2
    omega
  · have hne : ¬ p = 9 * t.length + w.length := fun q => e (by rw [← q]; exact hp.2.1)
    refine ⟨Or.inl ⟨p, hp, Nat.zero_le _, hf, hne⟩, ?_⟩
    have hn2 : ¬ (p / 9 = t.length ∧ p % 9 = w.length) := fun q => hne (by omega)
    have := ed_tight hpr.1 hpr.2.1 hn2 hf
    have := hp.2.2
    omega
theorem bf_2n {t w : List Nat} {ds c q : Nat} {rho : Nat → Nat} (h : bf_2 t w ds c q rho) (hn : rho q ≠ c + 1) : bf_2 t w ds c (q + 1) rho := by
  rcases h with ⟨p, hp, hq, hf⟩ | h
  · refine Or.inl ⟨p, hp, ?_, hf⟩
    by_cases e : p = q
    · subst e; exact absurd hp.2.1 hn
    · omega
  · exact Or.inr h
/-- what the second pass does at a place that was reached at cost c -/
def bf_s (t w : List Nat) (rho : Nat → Nat) (q c : Nat) : Nat → Nat :=
  let r1 := if q / 9 < t.length ∧ q % 9 < w.length then bf_r rho (q + 10) (c + 1) else rho
  let r2 := if q / 9 < t.length then bf_r r1 (q + 9) (c + 1) else r1
  if q % 9 < w.length then bf_r r2 (q + 1) (c + 1) else r2
theorem bf_2s {t w : List Nat} {ds c q : Nat} {rho : Nat → Nat} (hw : w.length ≤ 8) (ht : t.length ≤ 10) (hok : bf_ok t w ds (c + 2) rho) (h : bf_2 t w ds c q rho) (hq : q < 99) (hr : rho q = c + 1) : bf_ok t w ds (c + 2) (bf_s t w rho q c) ∧ bf_2 t w ds c (q + 1) (bf_s t w rho q c) := by
  have hq2 := hok q hq (by omega)
  unfold bf_s
  -- the first of the three
  have s1 : ∃ r1, r1 = (if q / 9 < t.length ∧ q % 9 < w.length then bf_r rho (q + 10) (c + 1) else rho) ∧ bf_ok t w ds (c + 2) r1 ∧ (∀ d p, bf_at t w ds d rho p → bf_at t w ds d r1 p) ∧ (q / 9 < t.length → q % 9 < w.length → ed_d t w (q / 9 + 1) (q % 9 + 1) + (c + 1) = ds → ∃ p, bf_at t w ds (c + 1) r1 p) := by
    by_cases a : q / 9 < t.length ∧ q % 9 < w.length
    · obtain ⟨x1, x2⟩ := bf_10 a.2 hw
      have := ed_d_dg a.1 a.2
      refine ⟨_, rfl, ?_⟩
      rw [if_pos a]
      refine ⟨bf_ok_r hok (by omega) (by omega) (by omega) (by rw [x1, x2]; omega), fun d p h => bf_at_r h, fun _ _ e => ⟨q + 10, bf_hit hok (by omega) (by omega) (by rw [x1, x2]; exact e)⟩⟩
    · refine ⟨_, rfl, ?_⟩
      rw [if_neg a]
      exact ⟨hok, fun d p h => h, fun x y _ => absurd ⟨x, y⟩ a⟩
  obtain ⟨r1, e1, ok1, k1, n1⟩ := s1
  rw [← e1]
  have s2 : ∃ r2, r2 = (if q / 9 < t.length then bf_r r1 (q + 9) (c + 1) else r1) ∧ bf_ok t w ds (c + 2) r2 ∧ (∀ d p, bf_at t w ds d r1 p → bf_at t w ds d r2 p) ∧ (q / 9 < t.length → ed_d t w (q / 9 + 1) (q % 9) + (c + 1) = ds → ∃ p, bf_at t w ds (c + 1) r2 p) := by
    by_cases a : q / 9 < t.length
    · obtain ⟨x1, x2⟩ := bf_9 q
      have := ed_d_dn a hq2.2.1
      refine ⟨_, rfl, ?_⟩
      rw [if_pos a]
      refine ⟨bf_ok_r ok1 (by omega) (by omega) (by omega) (by rw [x1, x2]; omega), fun d p h => bf_at_r h, fun _ e => ⟨q + 9, bf_hit ok1 (by omega) (by omega) (by rw [x1, x2]; exact e)⟩⟩
    · refine ⟨_, rfl, ?_⟩
      rw [if_neg a]
      exact ⟨ok1, fun d p h => h, fun x _ => absurd x a⟩
  obtain ⟨r2, e2, ok2, k2, n2⟩ := s2
  have s3 : ∃ r3, r3 = (if q % 9 < w.length then bf_r r2 (q + 1) (c + 1) else r2) ∧ bf_ok t w ds (c + 2) r3 ∧ (∀ d p, bf_at t w ds d r2 p → bf_at t w ds d r3 p) ∧ (q % 9 < w.length → ed_d t w (q / 9) (q % 9 + 1) + (c + 1) = ds → ∃ p, bf_at t w ds (c + 1) r3 p) := by
    by_cases a : q % 9 < w.length
    · obtain ⟨x1, x2⟩ := bf_01 a hw
      have := ed_d_rt hq2.1 a
      refine ⟨_, rfl, ?_⟩
      rw [if_pos a]
      refine ⟨bf_ok_r ok2 (by omega) (by omega) (by omega) (by rw [x1, x2]; omega), fun d p h => bf_at_r h, fun _ e => ⟨q + 1, bf_hit ok2 (by omega) (by omega) (by rw [x1, x2]; exact e)⟩⟩
    · refine ⟨_, rfl, ?_⟩
      rw [if_neg a]
      exact ⟨ok2, fun d p h => h, fun x _ => absurd x a⟩
  obtain ⟨r3, e3, ok3, k3, n3⟩ := s3
  dsimp only
  rw [← e2, ← e3]
  refine ⟨ok3, ?_⟩
  rcases h with ⟨p, hp, hqp, hf, hne⟩ | ⟨p, hp⟩
  · by_cases e : p = q
    · subst e
      right
      have hn2 : ¬ (p / 9 = t.length ∧ p % 9 = w.length) := fun q => hne (by omega)
      have hd := hp.2.2
      rcases ed_tight hq2.1 hq2.2.1 hn2 hf with ⟨a, b, z⟩ | ⟨a, z⟩ | ⟨a, z⟩
      · obtain ⟨p', h'⟩ := n1 a b (by omega)
        exact ⟨p', k3 _ _ (k2 _ _ h')⟩
      · obtain ⟨p', h'⟩ := n2 a (by omega)
        exact ⟨p', k3 _ _ h'⟩
      · exact n3 a (by omega)
    · exact Or.inl ⟨p, k3 _ _ (k2 _ _ (k1 _ _ hp)), by omega, hf, hne⟩
  · exact Or.inr ⟨p, k3 _ _ (k2 _ _ (k1 _ _ hp))⟩
theorem bf_end {t w : List Nat} {ds c : Nat} {rho : Nat → Nat} (h : bf_2 t w ds c 99 rho) : bf_1 t w ds (c + 1) 0 rho := by
  rcases h with ⟨p, hp, hq, -⟩ | ⟨p, hp⟩
  · exact absurd hp.1 (by omega)
  · exact ⟨p, hp, Or.inl (Nat.zero_le _)⟩
theorem bf_ok_up {t w : List Nat} {ds b b' : Nat} {rho : Nat → Nat} (h : bf_ok t w ds b rho) (hb : b ≤ b') : bf_ok t w ds b' rho := fun p hp hn => by
  have := h p hp hn; omega
theorem bf_0 {t w : List Nat} {i j : Nat} (hw : w.length ≤ 8) (ht : t.length ≤ 10) (hi : i ≤ t.length) (hj : j ≤ w.length) : bf_ok t w (ed_d t w i j) 1 (fun p => if p = 9 * i + j then 1 else 0) ∧ bf_1 t w (ed_d t w i j) 0 0 (fun p => if p = 9 * i + j then 1 else 0) := by
  have d1 : (9 * i + j) / 9 = i := by omega
  have d2 : (9 * i + j) % 9 = j := by omega
  refine ⟨fun p hp hn => ?_, 9 * i + j, ⟨by omega, by simp, by rw [d1, d2]; omega⟩, Or.inl (Nat.zero_le _)⟩
  by_cases e : p = 9 * i + j
  · subst e; dsimp only; rw [d1, d2, if_pos rfl]; omega
  · dsimp only at hn; rw [if_neg e] at hn; exact absurd rfl hn
end
section
/-! pure: the order of words, the dictionary in order and out of order, places -/
def wd_cd (xs : List Nat) (i : Nat) : Nat := match xs[i]? with
  | some x => x + 1
  | none => 0
theorem wd_cd_in {xs : List Nat} {i : Nat} (h : i < xs.length) : wd_cd xs i = xs.getD i 0 + 1 := by
  unfold wd_cd; rw [List.getD_eq_getElem?_getD, List.getElem?_eq_getElem h]; rfl
theorem wd_cd_out {xs : List Nat} {i : Nat} (h : xs.length ≤ i) : wd_cd xs i = 0 := by
  unfold wd_cd; rw [List.getElem?_eq_none h]
def wd_lt : List Nat → List Nat → Bool
  | _, [] => false
  | [], _ :: _ => true
  | x :: xs, y :: ys => if x = y then wd_lt xs ys else decide (x < y)
theorem wd_lt_nilR (xs : List Nat) : wd_lt xs [] = false := by cases xs <;> rfl
theorem wd_lt_nilL (y : Nat) (ys : List Nat) : wd_lt [] (y :: ys) = true := rfl
theorem wd_lt_cons (x y : Nat) (xs ys : List Nat) : wd_lt (x :: xs) (y :: ys) = if x = y then wd_lt xs ys else decide (x < y) := rfl
theorem wd_dropG {t : List Nat} {i : Nat} (h : i < t.length) : t.drop i = t.getD i 0 :: t.drop (i + 1) := by
  rw [List.drop_eq_getElem_cons h, List.getD_eq_getElem?_getD, List.getElem?_eq_getElem h]; rfl
theorem wd_lt_s (xs ys : List Nat) (i : Nat) : wd_lt (xs.drop i) (ys.drop i) = if wd_cd xs i = wd_cd ys i then wd_lt (xs.drop (i + 1)) (ys.drop (i + 1)) else decide (wd_cd xs i < wd_cd ys i) := by
  rcases Nat.lt_or_ge i xs.length with a | a
  · rcases Nat.lt_or_ge i ys.length with b | b
    · rw [wd_dropG a, wd_dropG b, wd_lt_cons, wd_cd_in a, wd_cd_in b]
      by_cases e : xs.getD i 0 = ys.getD i 0
      · rw [if_pos e, if_pos (by rw [e])]
      · rw [if_neg e, if_neg (by omega)]
        exact decide_eq_decide.mpr (by omega)
    · rw [List.drop_eq_nil_of_le b, wd_lt_nilR, wd_cd_in a, wd_cd_out b, if_neg (by omega)]
      simp
  · rcases Nat.lt_or_ge i ys.length with b | b
    · rw [List.drop_eq_nil_of_le a, wd_dropG b, wd_lt_nilL, wd_cd_out a, wd_cd_in b, if_neg (by omega)]
      simp
    · rw [wd_cd_out a, wd_cd_out b, if_pos rfl, List.drop_eq_nil_of_le b, List.drop_eq_nil_of_le (show ys.length ≤ i + 1 by omega), wd_lt_nilR, wd_lt_nilR]
theorem wd_irr : ∀ xs : List Nat, wd_lt xs xs = false
  | [] => rfl
  | x :: xs => by rw [wd_lt_cons, if_pos rfl]; exact wd_irr xs
theorem wd_trans : ∀ {xs ys zs : List Nat}, wd_lt xs ys = true → wd_lt ys zs = true → wd_lt xs zs = true
  | xs, ys, [], _, h => by rw [wd_lt_nilR] at h; cases h
  | [], ys, z :: zs, _, _ => rfl
  | x :: xs, [], z :: zs, h, _ => by rw [wd_lt_nilR] at h; cases h
  | x :: xs, y :: ys, z :: zs, h1, h2 => by
    rw [wd_lt_cons] at h1 h2 ⊢
    by_cases a : x = y
    · subst a
      rw [if_pos rfl] at h1
      by_cases b : x = z
      · rw [if_pos b] at h2 ⊢; exact wd_trans h1 h2
      · rw [if_neg b] at h2 ⊢; exact h2
    · rw [if_neg a] at h1
      have h1 := of_decide_eq_true h1
      by_cases b : y = z
      · subst b; rw [if_neg a]; exact decide_eq_true h1
      · rw [if_neg b] at h2
        have h2 := of_decide_eq_true h2
        rw [if_neg (by omega)]; exact decide_eq_true (by omega)
theorem wd_tot : ∀ {xs ys : List Nat}, xs ≠ ys → wd_lt xs ys = true ∨ wd_lt ys xs = true
  | [], [], h => absurd rfl h
  | [], _ :: _, _ => Or.inl rfl
  | _ :: _, [], _ => Or.inr rfl
  | x :: xs, y :: ys, h => by
    rw [wd_lt_cons, wd_lt_cons]
    by_cases a : x = y
    · subst a
      rw [if_pos rfl, if_pos rfl]
      exact wd_tot (fun e => h (by rw [e]))
    · rw [if_neg a, if_neg (Ne.symm a)]
      rcases Nat.lt_or_ge x y with b | b
      · exact Or.inl (decide_eq_true b)
      · exact Or.inr (decide_eq_true (by omega))
theorem wd_asym {xs ys : List Nat} (h : wd_lt xs ys = true) : wd_lt ys xs = false := by
  cases e : wd_lt ys xs with
  | false => rfl
  | true => have := wd_trans h e; rw [wd_irr] at this; cases this
abbrev wd_W : Type := List Nat × Nat
/-- which of two words is told first: less far, then more often learned, then the order of words -/
def wd_bt (d : wd_W → Nat) (v w : wd_W) : Bool := if d v = d w then (if v.2 = w.2 then wd_lt v.1 w.1 else decide (w.2 < v.2)) else decide (d v < d w)
theorem wd_bt_irr (d : wd_W → Nat) (v : wd_W) : wd_bt d v v = false := by unfold wd_bt; rw [if_pos rfl, if_pos rfl, wd_irr]
theorem wd_bt_iff (d : wd_W → Nat) (v w : wd_W) : wd_bt d v w = true ↔ d v < d w ∨ (d v = d w ∧ (w.2 < v.2 ∨ (v.2 = w.2 ∧ wd_lt v.1 w.1 = true))) := by
  unfold wd_bt
  by_cases a : d v = d w
  · rw [if_pos a]
    by_cases b : v.2 = w.2
    · rw [if_pos b]
      constructor
      · intro h; exact Or.inr ⟨a, Or.inr ⟨b, h⟩⟩
      · rintro (h | ⟨-, h | ⟨-, h⟩⟩)
        · omega
        · omega
        · exact h
    · rw [if_neg b, decide_eq_true_iff]; omega
  · rw [if_neg a, decide_eq_true_iff]; omega
theorem wd_bt_trans {d : wd_W → Nat} {u v w : wd_W} (h1 : wd_bt d u v = true) (h2 : wd_bt d v w = true) : wd_bt d u w = true := by
  rw [wd_bt_iff] at h1 h2 ⊢
  rcases h1 with a | ⟨a, a2 | ⟨a2, a3⟩⟩ <;> rcases h2 with b | ⟨b, b2 | ⟨b2, b3⟩⟩
  · left; omega
  · left; omega
  · left; omega
  · left; omega
  · right; exact ⟨by omega, Or.inl (by omega)⟩
  · right; exact ⟨by omega, Or.inl (by omega)⟩
  · left; omega
  · right; exact ⟨by omega, Or.inl (by omega)⟩
  · right; exact ⟨by omega, Or.inr ⟨by omega, wd_trans a3 b3⟩⟩
theorem wd_bt_tot {d : wd_W → Nat} {v w : wd_W} (h : v.1 ≠ w.1) : wd_bt d v w = true ∨ wd_bt d w v = true := by
  rw [wd_bt_iff, wd_bt_iff]
  rcases Nat.lt_trichotomy (d v) (d w) with a | a | a
  · exact Or.inl (Or.inl a)
  · rcases Nat.lt_trichotomy v.2 w.2 with b | b | b
    · exact Or.inr (Or.inr ⟨a.symm, Or.inl b⟩)
    · rcases wd_tot h with c | c
      · exact Or.inl (Or.inr ⟨a, Or.inr ⟨b, c⟩⟩)
      · exact Or.inr (Or.inr ⟨a.symm, Or.inr ⟨b.symm, c⟩⟩)
    · exact Or.inl (Or.inr ⟨a, Or.inl b⟩)
  · exact Or.inr (Or.inl a)
theorem wd_cp_lt {α : Type} {p r : α → Bool} : ∀ {l : List α}, (∀ x ∈ l, p x = true → r x = true) → (∃ x, x ∈ l ∧ r x = true ∧ p x = false) → l.countP p < l.countP r
  | [], _, ⟨x, h, _⟩ => by cases h
  | a :: l, h, ⟨x, hx, h1, h2⟩ => by
    have hl : ∀ x ∈ l, p x = true → r x = true := fun x hx => h x (List.mem_cons_of_mem _ hx)
    have hle : l.countP p ≤ l.countP r := List.countP_mono_left hl
    rw [List.countP_cons, List.countP_cons]
    rcases List.mem_cons.mp hx with e | e
    · subst e
      rw [h1, h2]; simp; omega
    · have := wd_cp_lt hl ⟨x, e, h1, h2⟩
      have := h a List.mem_cons_self
      cases pa : p a with
      | false => simp; omega
      | true => rw [this pa]; simp; omega
/-- no two words are told at the same place -/
theorem wd_uniq {l : List wd_W} {d : wd_W → Nat} {q : wd_W → Bool} {v w : wd_W} (hv : v ∈ l) (hw : w ∈ l) (qv : q v = true) (qw : q w = true) (h : l.countP (fun u => q u && wd_bt d u v) = l.countP (fun u => q u && wd_bt d u w)) : v.1 = w.1 := by
  have key : ∀ {v w : wd_W}, v ∈ l → q v = true → wd_bt d v w = true → l.countP (fun u => q u && wd_bt d u v) < l.countP (fun u => q u && wd_bt d u w) := by
    intro v w hv qv hb
    refine wd_cp_lt (fun x _ hx => ?_) ⟨v, hv, ?_, ?_⟩
    · simp only [Bool.and_eq_true] at hx ⊢
      exact ⟨hx.1, wd_bt_trans hx.2 hb⟩
    · simp only [Bool.and_eq_true]; exact ⟨qv, hb⟩
    · rw [wd_bt_irr]; simp
  apply Classical.byContradiction
  intro hne
  rcases wd_bt_tot (d := d) hne with a | a
  · have := key hv qv a; omega
  · have := key hw qw a; omega
/-- the words in their order, each once -/
def wd_so (l : List wd_W) : Prop := l.Pairwise (fun a b => wd_lt a.1 b.1 = true)
theorem wd_rank : ∀ {l : List wd_W} {k : Nat} {w : wd_W}, wd_so l → l[k]? = some w → l.countP (fun v => wd_lt v.1 w.1) = k
  | [], k, w, _, h => by simp at h
  | a :: l, 0, w, hs, h => by
    have hs := List.pairwise_cons.mp hs
    rw [List.getElem?_cons_zero] at h
    cases h
    rw [List.countP_cons, wd_irr]
    have : l.countP (fun v => wd_lt v.1 a.1) = 0 := by
      rw [List.countP_eq_zero]
      intro b hb
      rw [wd_asym (hs.1 b hb)]; simp
    rw [this]; rfl
  | a :: l, k + 1, w, hs, h => by
    have hs := List.pairwise_cons.mp hs
    rw [List.getElem?_cons_succ] at h
    rw [List.countP_cons, wd_rank hs.2 h, hs.1 w (List.mem_of_getElem? h)]
    rfl
theorem wd_once {l : List wd_W} (hs : wd_so l) {i j : Nat} {v w : wd_W} (hi : l[i]? = some v) (hj : l[j]? = some w) (h : v.1 = w.1) : i = j := by
  rw [← wd_rank hs hi, ← wd_rank hs hj, h]
/-- the answer of suggest and of complete -/
def wd_sug (l : List wd_W) (d : wd_W → Nat) (q : wd_W → Bool) (i r : Int32) : Prop := (∃ k v, l[k]? = some v ∧ q v = true ∧ i = nI (l.countP (fun u => q u && wd_bt d u v)) ∧ r = nI k) ∨ (r = -1 ∧ ∀ v ∈ l, q v = true → ¬ i = nI (l.countP (fun u => q u && wd_bt d u v)))
theorem wd_sug_one {l : List wd_W} {d : wd_W → Nat} {q : wd_W → Bool} {i r r' : Int32} (hs : wd_so l) (hl : l.length < 2 ^ 31) (h : wd_sug l d q i r) (h' : wd_sug l d q i r') : r = r' := by
  rcases h with ⟨k, v, h1, h2, h3, h4⟩ | ⟨h1, h2⟩
  · rcases h' with ⟨k', v', g1, g2, g3, g4⟩ | ⟨g1, g2⟩
    · have hv := List.mem_of_getElem? h1
      have hv' := List.mem_of_getElem? g1
      have e : l.countP (fun u => q u && wd_bt d u v) = l.countP (fun u => q u && wd_bt d u v') := by
        have c1 : l.countP (fun u => q u && wd_bt d u v) ≤ l.length := List.countP_le_length
        have c2 : l.countP (fun u => q u && wd_bt d u v') ≤ l.length := List.countP_le_length
        exact (nI_eq (by omega) (by omega)).mp (h3.symm.trans g3)
      have := wd_once hs h1 g1 (wd_uniq hv hv' h2 g2 e)
      rw [h4, g4, this]
    · exact absurd h3 (g2 v (List.mem_of_getElem? h1) h2)
  · rcases h' with ⟨k', v', g1, g2, g3, g4⟩ | ⟨g1, g2⟩
    · exact absurd g3 (h2 v' (List.mem_of_getElem? g1) g2)
    · rw [h1, g1]
/-- a new word at its place -/
theorem wd_ins : ∀ {l : List wd_W} {x : wd_W}, wd_so l → (∀ v ∈ l, v.1 ≠ x.1) → wd_so (l.take (l.countP (fun v => wd_lt v.1 x.1)) ++ x :: l.drop (l.countP (fun v => wd_lt v.1 x.1)))
  | [], x, _, _ => by simp [wd_so]
  | a :: l, x, hs, hn => by
    have hs := List.pairwise_cons.mp hs
    have hn' : ∀ v ∈ l, v.1 ≠ x.1 := fun v hv => hn v (List.mem_cons_of_mem _ hv)
    rcases wd_tot (hn a List.mem_cons_self) with h | h
    · have ih := wd_ins hs.2 hn'
      rw [List.countP_cons, h]
      show wd_so ((a :: l).take (l.countP (fun v => wd_lt v.1 x.1) + 1) ++ x :: (a :: l).drop (l.countP (fun v => wd_lt v.1 x.1) + 1))
      rw [List.take_succ_cons, List.drop_succ_cons, List.cons_append]
      refine List.pairwise_cons.mpr ⟨fun b hb => ?_, ih⟩
      rcases List.mem_append.mp hb with hb | hb
      · exact hs.1 b (List.mem_of_mem_take hb)
      · rcases List.mem_cons.mp hb with rfl | hb
        · exact h
        · exact hs.1 b (List.mem_of_mem_drop hb)
    · have z : (a :: l).countP (fun v => wd_lt v.1 x.1) = 0 := by
        rw [List.countP_eq_zero]
        intro b hb
        rcases List.mem_cons.mp hb with rfl | hb
        · rw [wd_asym h]; simp
        · rw [wd_asym (wd_trans h (hs.1 b hb))]; simp
      rw [z, List.take_zero, List.drop_zero, List.nil_append]
      refine List.pairwise_cons.mpr ⟨fun b hb => ?_, List.pairwise_cons.mpr hs⟩
      rcases List.mem_cons.mp hb with rfl | hb
      · exact h
      · exact wd_trans h (hs.1 b hb)
theorem wd_ins_perm {l m : List wd_W} (h : l.Perm m) (x : wd_W) (p : Nat) : (l.take p ++ x :: l.drop p).Perm (m ++ [x]) := by
  refine List.perm_middle.trans ?_
  rw [List.take_append_drop]
  exact (List.Perm.cons x h).trans (List.perm_append_comm (l₁ := [x]))
theorem wd_er : ∀ {α : Type} {l : List α} {k : Nat} {x : α}, l[k]? = some x → l.Perm (x :: l.eraseIdx k)
  | _, [], k, x, h => by simp at h
  | _, a :: l, 0, x, h => by rw [List.getElem?_cons_zero] at h; cases h; exact List.Perm.refl _
  | _, a :: l, k + 1, x, h => by
    rw [List.getElem?_cons_succ] at h
    rw [List.eraseIdx_cons_succ]
    exact (List.Perm.cons a (wd_er h)).trans (List.Perm.swap x a _)
theorem wd_st : ∀ {α : Type} {l : List α} {k : Nat} (y : α), k < l.length → (l.set k y).Perm (y :: l.eraseIdx k)
  | _, [], k, y, h => by simp at h
  | _, a :: l, 0, y, _ => List.Perm.refl _
  | _, a :: l, k + 1, y, h => by
    rw [List.set_cons_succ, List.eraseIdx_cons_succ]
    exact (List.Perm.cons a (wd_st y (by simpa using h))).trans (List.Perm.swap y a _)
theorem wd_er2 {l m : List wd_W} {k w : Nat} {x : wd_W} (h : l.Perm m) (hl : l[k]? = some x) (hm : m[w]? = some x) : (l.eraseIdx k).Perm (m.eraseIdx w) :=
  List.Perm.cons_inv (a := x) ((wd_er hl).symm.trans (h.trans (wd_er hm)))
theorem wd_lt_of {α : Type} {l : List α} {k : Nat} {x : α} (h : l[k]? = some x) : k < l.length := (List.getElem?_eq_some_iff.mp h).1
theorem wd_set2 {l m : List wd_W} {k w : Nat} {x : wd_W} (y : wd_W) (h : l.Perm m) (hl : l[k]? = some x) (hm : m[w]? = some x) : (l.set k y).Perm (m.set w y) :=
  (wd_st y (wd_lt_of hl)).trans ((List.Perm.cons y (wd_er2 h hl hm)).trans (wd_st y (wd_lt_of hm)).symm)
/-- the last word into the gap, one word fewer -/
def wd_rm (m : List wd_W) (w : Nat) : List wd_W := (m.set w (m.getD (m.length - 1) ([], 0))).take (m.length - 1)
theorem wd_rm_perm {m : List wd_W} {w : Nat} (hw : w < m.length) : (wd_rm m w).Perm (m.eraseIdx w) := by
  obtain ⟨L, b, hm⟩ := (List.eq_nil_or_concat m).resolve_left (fun e => by subst e; simp at hw)
  rw [List.concat_eq_append] at hm
  subst hm
  have hl : (L ++ [b]).length - 1 = L.length := by simp
  have hb : (L ++ [b]).getD L.length ([], 0) = b := by simp
  unfold wd_rm
  rw [hl, hb]
  rcases Nat.lt_or_ge w L.length with a | a
  · rw [List.set_append_left _ _ a, List.take_left' (by simp), List.eraseIdx_append_of_lt_length a]
    exact (wd_st b a).trans (List.perm_append_comm (l₁ := [b]))
  · have e : w = L.length := by simp at hw; omega
    subst e
    rw [List.set_append_right _ _ (Nat.le_refl _), List.take_left' rfl, List.eraseIdx_append_of_length_le (Nat.le_refl _)]
    simp
theorem wd_rm_len (m : List wd_W) (w : Nat) : (wd_rm m w).length = m.length - 1 := by
  unfold wd_rm; rw [List.length_take, List.length_set]; omega
theorem wd_so_er {l : List wd_W} (k : Nat) (h : wd_so l) : wd_so (l.eraseIdx k) := List.Pairwise.sublist (List.eraseIdx_sublist l k) h
theorem wd_so_set {l : List wd_W} {k : Nat} {x y : wd_W} (h : wd_so l) (hk : l[k]? = some x) (e : y.1 = x.1) : wd_so (l.set k y) := by
  have hm : (l.set k y).map Prod.fst = l.map Prod.fst := by
    rw [List.map_set, e]
    apply List.ext_getElem?
    intro i
    by_cases q : i = k
    · subst q
      have hl : i < (l.map Prod.fst).length := by rw [List.length_map]; exact wd_lt_of hk
      rw [List.getElem?_set_self hl, List.getElem?_map, hk]; rfl
    · rw [List.getElem?_set_ne (Ne.symm q)]
  have h1 : (l.map Prod.fst).Pairwise (fun a b => wd_lt a b = true) := List.pairwise_map.mpr h
  rw [← hm] at h1
  exact List.pairwise_map.mp h1
theorem wd_mem {l m : List wd_W} (h : l.Perm m) {w : Nat} {x : wd_W} (hw : m[w]? = some x) : ∃ k : Nat, l[k]? = some x := List.getElem?_of_mem (h.mem_iff.mpr (List.mem_of_getElem? hw))
/-- ranks follow the order of words -/
theorem wd_lt_rank {l : List wd_W} (hs : wd_so l) {a b : Nat} {v w : wd_W} (ha : l[a]? = some v) (hb : l[b]? = some w) : wd_lt v.1 w.1 = decide (a < b) := by
  have key : ∀ {a b : Nat} {v w : wd_W}, l[a]? = some v → l[b]? = some w → a < b → wd_lt v.1 w.1 = true := by
    intro a b v w ha hb hab
    obtain ⟨la, ea⟩ := List.getElem?_eq_some_iff.mp ha
    obtain ⟨lb, eb⟩ := List.getElem?_eq_some_iff.mp hb
    have := List.pairwise_iff_getElem.mp hs a b la lb hab
    rw [ea, eb] at this
    exact this
  rcases Nat.lt_trichotomy a b with h | h | h
  · rw [key ha hb h, decide_eq_true h]
  · subst h
    cases ha.symm.trans hb
    rw [wd_irr, decide_eq_false (by omega)]
  · rw [wd_asym (key hb ha h), decide_eq_false (by omega)]
/-- whatever is told before a word is no farther than it -/
theorem wd_cnt_q {l : List wd_W} {d : wd_W → Nat} {dd : Int32} {v : wd_W} (hd : ∀ u, d u < 2 ^ 30) (hq : nI (d v) ≤ dd) : l.countP (fun u => wd_bt d u v) = l.countP (fun u => decide (nI (d u) ≤ dd) && wd_bt d u v) := by
  refine List.countP_congr (fun u _ => ⟨fun h => ?_, fun h => ?_⟩)
  · have h2 := (wd_bt_iff d u v).mp h
    have hle : d u ≤ d v := by omega
    have h3 : nI (d u) ≤ nI (d v) := nI_le hle (by have := hd v; omega)
    rw [Bool.and_eq_true]
    exact ⟨decide_eq_true (Int32.le_trans h3 hq), h⟩
  · rw [Bool.and_eq_true] at h; exact h.2
end
section
/-! pure: the different lists that are left when letters are taken out -/
def dr_L (t : List Nat) : Nat → Nat → List Nat
  | 0, 0 => [0]
  | 0, _ + 1 => []
  | e + 1, 0 => dr_L t e 0
  | e + 1, r + 1 => dr_L t e (r + 1) ++ (dr_L t e r).map (fun c => 32 * c + (t.getD e 0 + 1))
theorem dr_L0 (t : List Nat) : ∀ e, dr_L t e 0 = [0]
  | 0 => rfl
  | e + 1 => by rw [dr_L]; exact dr_L0 t e
def dr_ch : Nat → Nat → Nat
  | _, 0 => 1
  | 0, _ + 1 => 0
  | e + 1, r + 1 => dr_ch e (r + 1) + dr_ch e r
theorem dr_len (t : List Nat) : ∀ e r, (dr_L t e r).length = dr_ch e r
  | 0, 0 => rfl
  | 0, _ + 1 => rfl
  | e + 1, 0 => by rw [dr_L0]; cases e <;> rfl
  | e + 1, r + 1 => by rw [dr_L, List.length_append, List.length_map, dr_len t e (r + 1), dr_len t e r]; rfl
theorem dr_252 : ∀ e, e < 11 → ∀ r, r < 11 → dr_ch e r ≤ 252 := by decide +kernel
theorem dr_mono (t : List Nat) {r c : Nat} : ∀ {p e : Nat}, p ≤ e → c ∈ dr_L t p r → c ∈ dr_L t e r := by
  intro p e
  induction e with
  | zero => intro h hc; cases Nat.le_zero.mp h; exact hc
  | succ e ih =>
    intro h hc
    rcases Nat.lt_or_ge p (e + 1) with a | a
    · have := ih (by omega) hc
      cases r with
      | zero => rw [dr_L]; exact this
      | succ r => rw [dr_L]; exact List.mem_append_left _ this
    · cases Nat.le_antisymm h a; exact hc
theorem dr_tail (t : List Nat) (ht : ∀ i, t.getD i 0 < 26) {a : Nat} (ha : a < 26) (r c : Nat) : ∀ e, 32 * c + (a + 1) ∈ dr_L t e (r + 1) ↔ ∃ p, p < e ∧ t.getD p 0 = a ∧ c ∈ dr_L t p r
  | 0 => by
    constructor
    · intro h; rw [dr_L] at h; cases h
    · rintro ⟨p, h, -⟩; omega
  | e + 1 => by
    rw [dr_L, List.mem_append, dr_tail t ht ha r c e, List.mem_map]
    constructor
    · rintro (⟨p, h1, h2, h3⟩ | ⟨c', h1, h2⟩)
      · exact ⟨p, by omega, h2, h3⟩
      · have := ht e
        have hc : c' = c := by omega
        subst hc
        exact ⟨e, by omega, by omega, h1⟩
    · rintro ⟨p, h1, h2, h3⟩
      rcases Nat.lt_or_ge p e with a | a
      · exact Or.inl ⟨p, a, h2, h3⟩
      · have : p = e := by omega
        subst this
        exact Or.inr ⟨c, h3, by rw [h2]⟩
/-- each once, in the order of their coming -/
def dr_ad (acc : List Nat) (x : Nat) : List Nat := if x ∈ acc then acc else acc ++ [x]
def dr_u (l : List Nat) : List Nat := l.foldl dr_ad []
theorem dr_u_step (l : List Nat) (x : Nat) : dr_u (l ++ [x]) = dr_ad (dr_u l) x := by unfold dr_u; rw [List.foldl_append]; rfl
theorem dr_fold : ∀ (l acc : List Nat), acc.Nodup → (l.foldl dr_ad acc).Nodup ∧ ∀ x, x ∈ l.foldl dr_ad acc ↔ x ∈ acc ∨ x ∈ l
  | [], acc, h => ⟨h, fun x => by simp⟩
  | a :: l, acc, h => by
    rw [List.foldl_cons]
    have h2 : (dr_ad acc a).Nodup ∧ ∀ x, x ∈ dr_ad acc a ↔ x ∈ acc ∨ x = a := by
      unfold dr_ad
      by_cases e : a ∈ acc
      · rw [if_pos e]
        exact ⟨h, fun x => ⟨Or.inl, fun q => q.elim id (fun z => z ▸ e)⟩⟩
      · rw [if_neg e]
        refine ⟨?_, fun x => by simp⟩
        rw [List.nodup_append]
        exact ⟨h, by simp, fun x hx y hy hxy => by rw [List.mem_singleton] at hy; subst hy; subst hxy; exact e hx⟩
    obtain ⟨i1, i2⟩ := dr_fold l _ h2.1
    refine ⟨i1, fun x => ?_⟩
    rw [i2 x, h2.2 x, List.mem_cons, or_assoc]
theorem dr_u_nd (l : List Nat) : (dr_u l).Nodup := (dr_fold l [] List.nodup_nil).1
theorem dr_u_mem (l : List Nat) (x : Nat) : x ∈ dr_u l ↔ x ∈ l := by
  have := (dr_fold l [] List.nodup_nil).2 x
  show x ∈ l.foldl dr_ad [] ↔ x ∈ l
  rw [this]; simp
theorem dr_eqlen {a b : List Nat} (ha : a.Nodup) (hb : b.Nodup) (h : ∀ x, x ∈ a ↔ x ∈ b) : a.length = b.length := ((List.perm_ext_iff_of_nodup ha hb).mpr h).length_eq
def dr_K (t : List Nat) (e r : Nat) : Nat := (dr_u (dr_L t e r)).length
theorem dr_u_le (l : List Nat) : (dr_u l).length ≤ l.length := List.Nodup.length_le_of_subset (dr_u_nd l) (fun x hx => (dr_u_mem l x).mp hx)
theorem dr_K_le (t : List Nat) {e r : Nat} (he : e < 11) (hr : r < 11) : dr_K t e r ≤ 252 := Nat.le_trans (dr_u_le _) (by rw [dr_len]; exact dr_252 e he r hr)
theorem dr_K0 (t : List Nat) (e : Nat) : dr_K t e 0 = 1 := by unfold dr_K; rw [dr_L0]; rfl
theorem dr_K00 (t : List Nat) (r : Nat) : dr_K t 0 (r + 1) = 0 := rfl
theorem dr_map_nd {f : Nat → Nat} (hf : ∀ a b, f a = f b → a = b) : ∀ {l : List Nat}, l.Nodup → (l.map f).Nodup
  | [], _ => List.nodup_nil
  | a :: l, h => by
    rw [List.nodup_cons] at h
    rw [List.map_cons, List.nodup_cons]
    refine ⟨fun q => ?_, dr_map_nd hf h.2⟩
    obtain ⟨b, hb, e⟩ := List.mem_map.mp q
    exact h.1 (hf _ _ e ▸ hb)
/-- one letter more: the lists without it, and those that end with it, but for what was there -/
theorem dr_rec (t : List Nat) (ht : ∀ i, t.getD i 0 < 26) (e r : Nat) : ∃ P, dr_K t (e + 1) (r + 1) + P = dr_K t e (r + 1) + dr_K t e r ∧ ((∀ p, p < e → t.getD p 0 ≠ t.getD e 0) → P = 0) ∧ ∀ p, p < e → t.getD p 0 = t.getD e 0 → (∀ q, p < q → q < e → t.getD q 0 ≠ t.getD e 0) → P = dr_K t p r := by
  have ha := ht e
  generalize hae : t.getD e 0 = a at ha ⊢
  let f : Nat → Nat := fun c => 32 * c + (a + 1)
  have hf : ∀ x y, f x = f y → x = y := fun x y h => by have h : 32 * x + (a + 1) = 32 * y + (a + 1) := h; omega
  let inL : Nat → Bool := fun c => decide (f c ∈ dr_L t e (r + 1))
  have hB : ∀ c, c ∈ (dr_u (dr_L t e r)).filter inL ↔ ∃ p, p < e ∧ t.getD p 0 = a ∧ c ∈ dr_L t p r := by
    intro c
    rw [List.mem_filter, dr_u_mem, decide_eq_true_iff]
    show _ ∧ 32 * c + (a + 1) ∈ _ ↔ _
    rw [dr_tail t ht ha]
    constructor
    · exact fun h => h.2
    · rintro ⟨p, h1, h2, h3⟩
      exact ⟨dr_mono t (by omega) h3, p, h1, h2, h3⟩
  have hnB : ((dr_u (dr_L t e r)).filter inL).Nodup := List.Nodup.sublist List.filter_sublist (dr_u_nd _)
  have hnG : ((dr_u (dr_L t e r)).filter (fun c => !inL c)).Nodup := List.Nodup.sublist List.filter_sublist (dr_u_nd _)
  have hsum : ((dr_u (dr_L t e r)).filter inL).length + ((dr_u (dr_L t e r)).filter (fun c => !inL c)).length = (dr_u (dr_L t e r)).length := by
    have := (List.filter_append_perm inL (dr_u (dr_L t e r))).length_eq
    rw [List.length_append] at this
    exact this
  have hX : dr_K t (e + 1) (r + 1) = (dr_u (dr_L t e (r + 1)) ++ ((dr_u (dr_L t e r)).filter (fun c => !inL c)).map f).length := by
    refine dr_eqlen (dr_u_nd _) ?_ (fun x => ?_)
    · rw [List.nodup_append]
      refine ⟨dr_u_nd _, dr_map_nd hf hnG, fun x hx y hy hxy => ?_⟩
      subst hxy
      obtain ⟨c, hc, rfl⟩ := List.mem_map.mp hy
      rw [List.mem_filter] at hc
      rw [dr_u_mem] at hx
      have h2 := hc.2
      simp only [inL, Bool.not_eq_true', decide_eq_false_iff_not] at h2
      exact h2 hx
    · rw [dr_u_mem, dr_L, hae, List.mem_append, List.mem_append, dr_u_mem, List.mem_map, List.mem_map]
      constructor
      · rintro (h | ⟨c, h1, h2⟩)
        · exact Or.inl h
        · by_cases g : x ∈ dr_L t e (r + 1)
          · exact Or.inl g
          · refine Or.inr ⟨c, ?_, h2⟩
            rw [List.mem_filter, dr_u_mem]
            refine ⟨h1, ?_⟩
            simp only [inL, Bool.not_eq_true', decide_eq_false_iff_not]
            intro q
            exact g (h2 ▸ q)
      · rintro (h | ⟨c, h1, h2⟩)
        · exact Or.inl h
        · rw [List.mem_filter, dr_u_mem] at h1
          exact Or.inr ⟨c, h1.1, h2⟩
  rw [List.length_append, List.length_map] at hX
  refine ⟨((dr_u (dr_L t e r)).filter inL).length, ?_, fun hno => ?_, fun p hp hpa hl => ?_⟩
  · rw [hX]
    show _ = (dr_u (dr_L t e (r + 1))).length + (dr_u (dr_L t e r)).length
    omega
  · rw [List.length_eq_zero_iff, List.eq_nil_iff_forall_not_mem]
    intro c hc
    obtain ⟨p, h1, h2, -⟩ := (hB c).mp hc
    exact hno p h1 h2
  · refine dr_eqlen hnB (dr_u_nd _) (fun c => ?_)
    rw [hB c, dr_u_mem]
    constructor
    · rintro ⟨p', h1, h2, h3⟩
      refine dr_mono t ?_ h3
      apply Classical.byContradiction
      intro hgt
      exact hl p' (by omega) h1 h2
    · intro h; exact ⟨p, hp, hpa, h⟩
/-! the sets of places: a number's bits -/
def dr_b : Nat → Nat → Nat
  | 0, _ => 0
  | k + 1, s => dr_b k s + s / 2 ^ k % 2
def dr_c (t : List Nat) : Nat → Nat → Nat
  | 0, _ => 0
  | k + 1, s => if s / 2 ^ k % 2 = 1 then 32 * dr_c t k s + (t.getD k 0 + 1) else dr_c t k s
theorem dr_hi {e k s : Nat} (hk : k < e) : (s + 2 ^ e) / 2 ^ k % 2 = s / 2 ^ k % 2 := by
  have h : 2 ^ e = 2 ^ k * (2 * 2 ^ (e - k - 1)) := by
    rw [← Nat.mul_assoc, ← Nat.pow_succ, ← Nat.pow_add]; congr 1; omega
  rw [h, Nat.add_mul_div_left _ _ (Nat.two_pow_pos k)]; omega
theorem dr_b_hi {e s : Nat} : ∀ k, k ≤ e → dr_b k (s + 2 ^ e) = dr_b k s
  | 0, _ => rfl
  | k + 1, h => by rw [dr_b, dr_b, dr_b_hi k (by omega), dr_hi (by omega)]
theorem dr_c_hi {t : List Nat} {e s : Nat} : ∀ k, k ≤ e → dr_c t k (s + 2 ^ e) = dr_c t k s
  | 0, _ => rfl
  | k + 1, h => by rw [dr_c, dr_c, dr_c_hi k (by omega), dr_hi (by omega)]
theorem dr_b_lo {e s : Nat} (hs : s < 2 ^ e) : ∀ n, dr_b (e + n) s = dr_b e s
  | 0 => rfl
  | n + 1 => by
    rw [← Nat.add_assoc, dr_b, dr_b_lo hs n, Nat.div_eq_of_lt (Nat.lt_of_lt_of_le hs (Nat.pow_le_pow_right (by omega) (by omega)))]; rfl
/-- the lists of the sets below s, one after the other -/
def dr_S (t : List Nat) (e r s : Nat) : List Nat := ((List.range s).filter (fun x => decide (dr_b e x = r))).map (dr_c t e)
theorem dr_S_0 (t : List Nat) (e r : Nat) : dr_S t e r 0 = [] := rfl
theorem dr_S_s (t : List Nat) (e r s : Nat) : dr_S t e r (s + 1) = if dr_b e s = r then dr_S t e r s ++ [dr_c t e s] else dr_S t e r s := by
  unfold dr_S
  rw [List.range_succ, List.filter_append, List.map_append]
  by_cases h : dr_b e s = r
  · rw [if_pos h]; simp [h]
  · rw [if_neg h]; simp [h]
theorem dr_S_all (t : List Nat) : ∀ e r, dr_S t e r (2 ^ e) = dr_L t e r
  | 0, 0 => rfl
  | 0, r + 1 => rfl
  | e + 1, r => by
    have hr : List.range (2 ^ (e + 1)) = List.range (2 ^ e) ++ (List.range (2 ^ e)).map (fun x => x + 2 ^ e) := by
      rw [show 2 ^ (e + 1) = 2 ^ e + 2 ^ e by rw [Nat.pow_succ]; omega, List.range_add]
      congr 1
      exact List.map_congr_left (fun x _ => Nat.add_comm _ _)
    unfold dr_S
    rw [hr, List.filter_append, List.map_append, List.filter_map, List.map_map]
    have h1 : ((List.range (2 ^ e)).filter (fun x => decide (dr_b (e + 1) x = r))).map (dr_c t (e + 1)) = dr_S t e r (2 ^ e) := by
      unfold dr_S
      have : (List.range (2 ^ e)).filter (fun x => decide (dr_b (e + 1) x = r)) = (List.range (2 ^ e)).filter (fun x => decide (dr_b e x = r)) := by
        refine List.filter_congr (fun x hx => ?_)
        rw [dr_b, Nat.div_eq_of_lt (List.mem_range.mp hx)]; simp
      rw [this]
      refine List.map_congr_left (fun x hx => ?_)
      rw [dr_c, Nat.div_eq_of_lt (List.mem_range.mp ((List.mem_filter.mp hx).1)), if_neg (by simp)]
    have one : ∀ x, x < 2 ^ e → (x + 2 ^ e) / 2 ^ e % 2 = 1 := fun x hx => by
      rw [Nat.add_div_right _ (Nat.two_pow_pos e), Nat.div_eq_of_lt hx]
    rw [h1, dr_S_all t e r]
    cases r with
    | zero =>
      have h2 : (List.range (2 ^ e)).filter ((fun x => decide (dr_b (e + 1) x = 0)) ∘ fun x => x + 2 ^ e) = [] := by
        rw [List.filter_eq_nil_iff]
        intro x hx
        simp only [Function.comp, decide_eq_true_iff]
        rw [dr_b, one x (List.mem_range.mp hx)]
        omega
      rw [h2, List.map_nil, List.append_nil, dr_L]
    | succ r =>
      have h2 : (List.range (2 ^ e)).filter ((fun x => decide (dr_b (e + 1) x = r + 1)) ∘ fun x => x + 2 ^ e) = (List.range (2 ^ e)).filter (fun x => decide (dr_b e x = r)) := by
        refine List.filter_congr (fun x hx => ?_)
        simp only [Function.comp]
        rw [dr_b, one x (List.mem_range.mp hx), dr_b_hi e (Nat.le_refl _)]
        exact decide_eq_decide.mpr (by omega)
      rw [h2, dr_L, ← dr_S_all t e r]
      congr 1
      unfold dr_S
      rw [List.map_map]
      refine List.map_congr_left (fun x hx => ?_)
      simp only [Function.comp]
      rw [dr_c, one x (List.mem_range.mp ((List.mem_filter.mp hx).1)), if_pos rfl, dr_c_hi e (Nat.le_refl _)]
theorem dr_c_lt (t : List Nat) (ht : ∀ i, t.getD i 0 < 26) (s : Nat) : ∀ k, dr_c t k s < 32 ^ k
  | 0 => Nat.zero_lt_succ 0
  | k + 1 => by
    have := dr_c_lt t ht s k
    have := ht k
    rw [dr_c, Nat.pow_succ]
    split <;> omega
end
section
/-! numbers: a letter that may be wanting, as an int: 0 is -1, x + 1 is x; truth as an int -/
def iv (c : Nat) : Int32 := nI c - 1
theorem iv_0 : iv 0 = -1 := by decide
theorem iv_s (x : Nat) : iv (x + 1) = nI x := nI_pred x
theorem iv_toInt {c : Nat} (h : c < 2 ^ 31) : (iv c).toInt = (c : Int) - 1 := by
  cases c with
  | zero => decide
  | succ x => rw [iv_s, nI_toInt (by omega)]; omega
theorem iv_eq {a b : Nat} (ha : a < 2 ^ 31) (hb : b < 2 ^ 31) : iv a = iv b ↔ a = b := by
  constructor
  · intro h
    have h1 := iv_toInt ha
    rw [h, iv_toInt hb] at h1
    omega
  · intro h; rw [h]
theorem iv_lt {a b : Nat} (ha : a < 2 ^ 31) (hb : b < 2 ^ 31) : iv a < iv b ↔ a < b := by
  rw [Int32.lt_iff_toInt_lt, iv_toInt ha, iv_toInt hb]; omega
theorem iv_neg {a : Nat} (ha : a < 2 ^ 31) : iv a < 0 ↔ a = 0 := by
  rw [Int32.lt_iff_toInt_lt, iv_toInt ha, Int32.toInt_zero]; omega
theorem iv_m1 {a : Nat} (ha : a < 2 ^ 31) : iv a = -1 ↔ a = 0 := by
  rw [← iv_0]; exact iv_eq ha (by omega)
theorem iv_nI {a b : Nat} (ha : a < 2 ^ 31) (hb : b < 2 ^ 30) : iv a = nI b ↔ a = b + 1 := by
  rw [← iv_s b]; exact iv_eq ha (by omega)
def bI (b : Bool) : Int32 := if b then 1 else 0
theorem bI_t : bI true = 1 := rfl
theorem bI_f : bI false = 0 := rfl
theorem bI_nar (b : Bool) : narrow .boolean (.int (bI b)) = .int (bI b) := by cases b <;> decide
theorem bI_0 {b : Bool} : bI b = 0 ↔ b = false := by cases b <;> decide
/-- a list's letter at an int -/
def atv (xs : List Nat) (i : Int32) : Nat := if i < 0 then 0 else wd_cd xs i.toNatClampNeg
theorem atv_neg {xs : List Nat} {i : Int32} (h : i < 0) : atv xs i = 0 := if_pos h
theorem atv_nI {xs : List Nat} {j : Nat} (h : j < 2 ^ 31) : atv xs (nI j) = wd_cd xs j := by
  unfold atv; rw [if_neg (nI_pos h), nI_clamp h]
theorem atv_big {xs : List Nat} {i : Int32} {n : Nat} (hn : n < 2 ^ 31) (h : nI n ≤ i) (hx : xs.length ≤ n) : atv xs i = 0 := by
  have h0 : ¬ i < 0 := fun q => by
    rw [Int32.lt_iff_toInt_lt, Int32.toInt_zero] at q
    rw [Int32.le_iff_toInt_le, nI_toInt hn] at h
    omega
  obtain ⟨j, hj, rfl⟩ := nI_of h0
  rw [atv_nI hj, wd_cd_out]
  have := (nI_leI hn hj).mp h
  omega
/-- letters are small -/
def w26 (xs : List Nat) : Prop := ∀ i, xs.getD i 0 < 26
theorem wd_cd_26 {xs : List Nat} (h : w26 xs) (i : Nat) : wd_cd xs i < 2 ^ 31 := by
  rcases Nat.lt_or_ge i xs.length with a | a
  · rw [wd_cd_in a]; have := h i; omega
  · rw [wd_cd_out a]; omega
theorem w26_nil : w26 [] := fun i => by simp
theorem w26_app {xs : List Nat} {x : Nat} (h : w26 xs) (hx : x < 26) : w26 (xs ++ [x]) := by
  intro i
  rcases Nat.lt_or_ge i xs.length with a | a
  · have := h i
    rw [List.getD_eq_getElem?_getD] at this ⊢
    rw [List.getElem?_append_left a]; exact this
  · rw [List.getD_eq_getElem?_getD, List.getElem?_append_right a]
    rcases Nat.lt_or_ge (i - xs.length) 1 with b | b
    · rw [show i - xs.length = 0 by omega]; exact hx
    · rw [List.getElem?_eq_none (by simpa using b)]; exact Nat.zero_lt_succ _
theorem w26_take {xs : List Nat} (n : Nat) (h : w26 xs) : w26 (xs.take n) := by
  intro i
  rw [List.getD_eq_getElem?_getD, List.getElem?_take]
  split
  · have := h i; rw [List.getD_eq_getElem?_getD] at this; exact this
  · exact Nat.zero_lt_succ _
theorem getD_app_l {xs : List Nat} {x i : Nat} (h : i < xs.length) : (xs ++ [x]).getD i 0 = xs.getD i 0 := by
  rw [List.getD_eq_getElem?_getD, List.getD_eq_getElem?_getD, List.getElem?_append_left h]
theorem getD_app_e (xs : List Nat) (x : Nat) : (xs ++ [x]).getD xs.length 0 = x := by
  rw [List.getD_eq_getElem?_getD, List.getElem?_append_right (Nat.le_refl _), Nat.sub_self]; rfl
theorem getD_take {xs : List Nat} {n i : Nat} (h : i < n) : (xs.take n).getD i 0 = xs.getD i 0 := by
  rw [List.getD_eq_getElem?_getD, List.getD_eq_getElem?_getD, List.getElem?_take, if_pos h]
/-- one list begins with another; two lists are one -/
def wpre (xs ys : List Nat) : Bool := decide (∀ i, i < ys.length → wd_cd xs i = wd_cd ys i)
theorem wpre_t {xs ys : List Nat} (h : ∀ i, i < ys.length → wd_cd xs i = wd_cd ys i) : wpre xs ys = true := decide_eq_true h
theorem wpre_f {xs ys : List Nat} {i : Nat} (hi : i < ys.length) (h : ¬ wd_cd xs i = wd_cd ys i) : wpre xs ys = false := decide_eq_false (fun q => h (q i hi))
theorem wd_ext {xs ys : List Nat} (h : ∀ i, wd_cd xs i = wd_cd ys i) : xs = ys := by
  apply List.ext_getElem?
  intro i
  have := h i
  unfold wd_cd at this
  cases a : xs[i]? with
  | none => cases b : ys[i]? with
    | none => rfl
    | some y => rw [a, b] at this; simp at this
  | some x => cases b : ys[i]? with
    | none => rw [a, b] at this; simp at this
    | some y => rw [a, b] at this; simp at this; rw [this]
theorem wsame_iff {xs ys : List Nat} (hl : xs.length = ys.length) : wpre xs ys = true ↔ xs = ys := by
  constructor
  · intro h
    have h := of_decide_eq_true h
    refine wd_ext (fun i => ?_)
    rcases Nat.lt_or_ge i ys.length with a | a
    · exact h i a
    · rw [wd_cd_out a, wd_cd_out (by omega)]
  · intro h; rw [h]; exact wpre_t (fun _ _ => rfl)
end
