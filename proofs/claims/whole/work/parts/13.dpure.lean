/-! the dictionary's picture under its changes -/
theorem pD.word {G : zG} {ad : Nat → Nat} {en : Nat → va_E} {sg : Nat → Nat} {C : List wd_W} (h : pD G ad en sg C) {k : Nat} {w : wd_W} (hk : C[k]? = some w) : en (5 + 3 * sg k) = .inr (kW, [.ref (ad (6 + 3 * sg k)), .int (nI w.2)]) ∧ pL G ad en (6 + 3 * sg k) (7 + 3 * sg k) 8 w.1 ∧ w.2 ≤ 1000000 := h.2.2.2.2.2.2 k w hk
theorem pD.lt {G : zG} {ad : Nat → Nat} {en : Nat → va_E} {sg : Nat → Nat} {C : List wd_W} (h : pD G ad en sg C) {k : Nat} (hk : k < 24) : sg k < 24 := h.2.2.2.1 k hk
theorem wd_some {α : Type} {l : List α} {k : Nat} (h : k < l.length) : ∃ x, l[k]? = some x := ⟨l[k], List.getElem?_eq_getElem h⟩
/-- a word learned more often -/
theorem pD.times {G : zG} {ad : Nat → Nat} {en : Nat → va_E} {sg : Nat → Nat} {C : List wd_W} (h : pD G ad en sg C) {j t : Nat} {w : wd_W} (hj : C[j]? = some w) (ht : t ≤ 1000000) : pD G ad (va_up en (5 + 3 * sg j) (.inr (kW, [.ref (ad (6 + 3 * sg j)), .int (nI t)]))) sg (C.set j (w.1, t)) := by
  have hjl := wd_lt_of hj
  obtain ⟨h1, h2, ⟨g, h3, h3'⟩, h4, h5, h6, h7⟩ := h
  have hs := h4 j (by omega)
  refine ⟨by rw [va_up_ne _ _ (by omega), List.length_set]; exact h1, by rw [List.length_set]; exact h2, ⟨g, by rw [va_up_ne _ _ (by omega)]; exact h3, h3'⟩, h4, h5, fun i hi => ?_, fun k v hk => ?_⟩
  · obtain ⟨⟨t0, a⟩, xs, b⟩ := h6 i hi
    refine ⟨?_, xs, b.keep (va_up_ne _ _ (by omega)) (va_up_ne _ _ (by omega))⟩
    by_cases e : i = sg j
    · subst e; exact ⟨nI t, va_up_self _ _ _⟩
    · exact ⟨t0, by rw [va_up_ne _ _ (by omega)]; exact a⟩
  · have hkl : k < C.length := by have := wd_lt_of hk; rw [List.length_set] at this; exact this
    have hs2 := h4 k (by omega)
    by_cases e : k = j
    · subst e
      rw [List.getElem?_set_self hjl] at hk
      cases hk
      obtain ⟨a, b, d⟩ := h7 k w hj
      exact ⟨va_up_self _ _ _, b.keep (va_up_ne _ _ (by omega)) (va_up_ne _ _ (by omega)), ht⟩
    · rw [List.getElem?_set_ne (Ne.symm e)] at hk
      obtain ⟨a, b, d⟩ := h7 k v hk
      have hne : sg k ≠ sg j := fun q => e (h5 k j (by omega) (by omega) q)
      exact ⟨by rw [va_up_ne _ _ (by omega)]; exact a, b.keep (va_up_ne _ _ (by omega)) (va_up_ne _ _ (by omega)), d⟩
/-- a spare word is written -/
theorem pD.spare {G : zG} {ad : Nat → Nat} {en en1 : Nat → va_E} {sg : Nat → Nat} {C : List wd_W} (h : pD G ad en sg C) (hl : C.length < 24) {ys : List Nat} {t : Int32} (hfr : ∀ r, r ≠ 5 + 3 * sg C.length → r ≠ 6 + 3 * sg C.length → r ≠ 7 + 3 * sg C.length → en1 r = en r) (hw : en1 (5 + 3 * sg C.length) = .inr (kW, [.ref (ad (6 + 3 * sg C.length)), .int t])) (hL : pL G ad en1 (6 + 3 * sg C.length) (7 + 3 * sg C.length) 8 ys) : pD G ad en1 sg C := by
  obtain ⟨h1, h2, ⟨g, h3, h3'⟩, h4, h5, h6, h7⟩ := h
  have hs := h4 C.length hl
  refine ⟨by rw [hfr _ (by omega) (by omega) (by omega)]; exact h1, h2, ⟨g, by rw [hfr _ (by omega) (by omega) (by omega)]; exact h3, h3'⟩, h4, h5, fun i hi => ?_, fun k v hk => ?_⟩
  · by_cases e : i = sg C.length
    · subst e; exact ⟨⟨t, hw⟩, ys, hL⟩
    · obtain ⟨⟨t0, a⟩, xs, b⟩ := h6 i hi
      exact ⟨⟨t0, by rw [hfr _ (by omega) (by omega) (by omega)]; exact a⟩, xs, b.keep (hfr _ (by omega) (by omega) (by omega)) (hfr _ (by omega) (by omega) (by omega))⟩
  · have hkl := wd_lt_of hk
    have hne : sg k ≠ sg C.length := fun q => by have := h5 k C.length (by omega) hl q; omega
    obtain ⟨a, b, d⟩ := h7 k v hk
    exact ⟨by rw [hfr _ (by omega) (by omega) (by omega)]; exact a, b.keep (hfr _ (by omega) (by omega) (by omega)) (hfr _ (by omega) (by omega) (by omega)), d⟩
/-- the row's places behind the shift, and behind the insertion -/
def px_s (n q k : Nat) : Nat := if q < k ∧ k ≤ n then k - 1 else k
def px_i (n p k : Nat) : Nat := if k < p then k else if k = p then n else if k ≤ n then k - 1 else k
def px_r (n p k : Nat) : Nat := if k < p then k else if k + 1 < n then k + 1 else if k + 1 = n then p else k
theorem wd_ins_at {l : List wd_W} {x : wd_W} {p : Nat} (hp : p ≤ l.length) (k : Nat) : (l.take p ++ x :: l.drop p)[k]? = if k < p then l[k]? else if k = p then some x else l[k - 1]? := by
  have hl : (l.take p).length = p := by rw [List.length_take]; omega
  by_cases a : k < p
  · rw [if_pos a, List.getElem?_append_left (by omega), List.getElem?_take, if_pos a]
  · rw [if_neg a, List.getElem?_append_right (by omega), hl]
    by_cases b : k = p
    · rw [if_pos b, b, Nat.sub_self]; rfl
    · rw [if_neg b, show k - p = (k - p - 1) + 1 by omega, List.getElem?_cons_succ, List.getElem?_drop]
      congr 1; omega
theorem pD.ins {G : zG} {ad : Nat → Nat} {en en1 : Nat → va_E} {sg : Nat → Nat} {C : List wd_W} (h : pD G ad en sg C) (hl : C.length < 24) {ys : List Nat} {t p : Nat} (hp : p ≤ C.length) (ht : t ≤ 1000000) (hw : en (5 + 3 * sg C.length) = .inr (kW, [.ref (ad (6 + 3 * sg C.length)), .int (nI t)])) (hL : pL G ad en (6 + 3 * sg C.length) (7 + 3 * sg C.length) 8 ys)
    (hfr : ∀ r, r ≠ 3 → r ≠ 4 → en1 r = en r) (h3n : en1 3 = .inr (kD, [.ref (ad 4), .int (nI (C.length + 1))])) {g : Nat → Option Nat} (h4n : en1 4 = .inl (zO G, 24, z_refs g)) (hg : ∀ k, k < 24 → g k = some (ad (5 + 3 * sg (px_i C.length p k)))) : pD G ad en1 (fun k => sg (px_i C.length p k)) (C.take p ++ (ys, t) :: C.drop p) := by
  obtain ⟨h1, h2, ⟨g0, h3, h3'⟩, h4, h5, h6, h7⟩ := h
  have hlen : (C.take p ++ (ys, t) :: C.drop p).length = C.length + 1 := by
    rw [List.length_append, List.length_cons, List.length_take, List.length_drop]; omega
  have hpl : ∀ k, k < 24 → px_i C.length p k < 24 := fun k hk => by unfold px_i; split; · omega
                                                                    split; · omega
                                                                    split <;> omega
  have hpi : ∀ i j, i < 24 → j < 24 → px_i C.length p i = px_i C.length p j → i = j := fun i j hi hj e => by
    unfold px_i at e
    repeat' split at e
    all_goals omega
  refine ⟨by rw [hlen]; exact h3n, by omega, ⟨g, h4n, hg⟩, fun k hk => h4 _ (hpl k hk), fun i j hi hj e => hpi i j hi hj (h5 _ _ (hpl i hi) (hpl j hj) e), fun i hi => ?_, fun k v hk => ?_⟩
  · obtain ⟨⟨t0, a⟩, xs, b⟩ := h6 i hi
    exact ⟨⟨t0, by rw [hfr _ (by omega) (by omega)]; exact a⟩, xs, b.keep (hfr _ (by omega) (by omega)) (hfr _ (by omega) (by omega))⟩
  · have hkl := wd_lt_of hk
    rw [hlen] at hkl
    rw [wd_ins_at hp] at hk
    have key : ∀ q, en (5 + 3 * sg q) = .inr (kW, [.ref (ad (6 + 3 * sg q)), .int (nI v.2)]) ∧ pL G ad en (6 + 3 * sg q) (7 + 3 * sg q) 8 v.1 ∧ v.2 ≤ 1000000 → en1 (5 + 3 * sg q) = .inr (kW, [.ref (ad (6 + 3 * sg q)), .int (nI v.2)]) ∧ pL G ad en1 (6 + 3 * sg q) (7 + 3 * sg q) 8 v.1 ∧ v.2 ≤ 1000000 := fun q z => ⟨by rw [hfr _ (by omega) (by omega)]; exact z.1, z.2.1.keep (hfr _ (by omega) (by omega)) (hfr _ (by omega) (by omega)), z.2.2⟩
    apply key
    unfold px_i
    by_cases a : k < p
    · rw [if_pos a] at hk ⊢; exact h7 k v hk
    · rw [if_neg a] at hk ⊢
      by_cases b : k = p
      · rw [if_pos b] at hk ⊢
        cases hk
        exact ⟨hw, hL, ht⟩
      · rw [if_neg b] at hk ⊢
        rw [if_pos (by omega)]
        exact h7 _ v hk
theorem pD.rem {G : zG} {ad : Nat → Nat} {en en1 : Nat → va_E} {sg : Nat → Nat} {C : List wd_W} (h : pD G ad en sg C) {p : Nat} (hp : p < C.length)
    (hfr : ∀ r, r ≠ 3 → r ≠ 4 → en1 r = en r) (h3n : en1 3 = .inr (kD, [.ref (ad 4), .int (nI (C.length - 1))])) {g : Nat → Option Nat} (h4n : en1 4 = .inl (zO G, 24, z_refs g)) (hg : ∀ k, k < 24 → g k = some (ad (5 + 3 * sg (px_r C.length p k)))) : pD G ad en1 (fun k => sg (px_r C.length p k)) (C.eraseIdx p) := by
  obtain ⟨h1, h2, ⟨g0, h3, h3'⟩, h4, h5, h6, h7⟩ := h
  have hlen : (C.eraseIdx p).length = C.length - 1 := List.length_eraseIdx_of_lt hp
  have hpl : ∀ k, k < 24 → px_r C.length p k < 24 := fun k hk => by unfold px_r; split; · omega
                                                                    split; · omega
                                                                    split <;> omega
  have hpi : ∀ i j, i < 24 → j < 24 → px_r C.length p i = px_r C.length p j → i = j := fun i j hi hj e => by
    unfold px_r at e
    repeat' split at e
    all_goals omega
  refine ⟨by rw [hlen]; exact h3n, by omega, ⟨g, h4n, hg⟩, fun k hk => h4 _ (hpl k hk), fun i j hi hj e => hpi i j hi hj (h5 _ _ (hpl i hi) (hpl j hj) e), fun i hi => ?_, fun k v hk => ?_⟩
  · obtain ⟨⟨t0, a⟩, xs, b⟩ := h6 i hi
    exact ⟨⟨t0, by rw [hfr _ (by omega) (by omega)]; exact a⟩, xs, b.keep (hfr _ (by omega) (by omega)) (hfr _ (by omega) (by omega))⟩
  · have hkl := wd_lt_of hk
    rw [hlen] at hkl
    rw [List.getElem?_eraseIdx] at hk
    have key : ∀ q, C[q]? = some v → en1 (5 + 3 * sg q) = .inr (kW, [.ref (ad (6 + 3 * sg q)), .int (nI v.2)]) ∧ pL G ad en1 (6 + 3 * sg q) (7 + 3 * sg q) 8 v.1 ∧ v.2 ≤ 1000000 := fun q z => by
      have z := h7 q v z
      exact ⟨by rw [hfr _ (by omega) (by omega)]; exact z.1, z.2.1.keep (hfr _ (by omega) (by omega)) (hfr _ (by omega) (by omega)), z.2.2⟩
    apply key
    unfold px_r
    by_cases a : k < p
    · rw [if_pos a] at hk ⊢; exact hk
    · rw [if_neg a] at hk ⊢
      rw [if_pos (by omega)]; exact hk
