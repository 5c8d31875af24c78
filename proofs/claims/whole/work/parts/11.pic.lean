/-! pictures: what the roles hold -/
abbrev z_refs (f : Nat → Option Nat) : (Nat → Int32) ⊕ (Nat → Int64) ⊕ (Nat → UInt32) ⊕ (Nat → UInt64) ⊕ (Nat → Option Nat) := .inr (.inr (.inr (.inr f)))
/-- a list of letters: its object at role k, its row at role ka -/
def pL (G : zG) (ad : Nat → Nat) (en : Nat → va_E) (k ka cap : Nat) (xs : List Nat) : Prop := en k = .inr (kL, [.ref (ad ka), .int (nI xs.length)]) ∧ xs.length ≤ cap ∧ w26 xs ∧ ∃ f : Nat → Int32, en ka = .inl (zI G, cap, .inl f) ∧ ∀ i, i < xs.length → f i = nI (xs.getD i 0)
theorem pL.keep {G : zG} {ad : Nat → Nat} {en en1 : Nat → va_E} {k ka cap : Nat} {xs : List Nat} (h : pL G ad en k ka cap xs) (h1 : en1 k = en k) (h2 : en1 ka = en ka) : pL G ad en1 k ka cap xs := by
  unfold pL at h ⊢; rw [h1, h2]; exact h
/-- the dictionary: its object at role 3, its row at role 4, word j at roles 5 + 3 j, 6 + 3 j, 7 + 3 j; the word of rank k is word sg k -/
def pD (G : zG) (ad : Nat → Nat) (en : Nat → va_E) (sg : Nat → Nat) (C : List wd_W) : Prop :=
  en 3 = .inr (kD, [.ref (ad 4), .int (nI C.length)]) ∧ C.length ≤ 24 ∧ (∃ g : Nat → Option Nat, en 4 = .inl (zO G, 24, z_refs g) ∧ ∀ k, k < 24 → g k = some (ad (5 + 3 * sg k))) ∧ (∀ k, k < 24 → sg k < 24) ∧ (∀ i j, i < 24 → j < 24 → sg i = sg j → i = j) ∧
  (∀ j, j < 24 → (∃ t : Int32, en (5 + 3 * j) = .inr (kW, [.ref (ad (6 + 3 * j)), .int t])) ∧ ∃ xs, pL G ad en (6 + 3 * j) (7 + 3 * j) 8 xs) ∧
  ∀ k w, C[k]? = some w → en (5 + 3 * sg k) = .inr (kW, [.ref (ad (6 + 3 * sg k)), .int (nI w.2)]) ∧ pL G ad en (6 + 3 * sg k) (7 + 3 * sg k) 8 w.1 ∧ w.2 ≤ 1000000
theorem pD.keep {G : zG} {ad : Nat → Nat} {en en1 : Nat → va_E} {sg : Nat → Nat} {C : List wd_W} (h : pD G ad en sg C) (hk : ∀ r, 3 ≤ r → r < 77 → en1 r = en r) : pD G ad en1 sg C := by
  obtain ⟨h1, h2, ⟨g, h3, h3'⟩, h4, h5, h6, h7⟩ := h
  refine ⟨by rw [hk 3 (by omega) (by omega)]; exact h1, h2, ⟨g, by rw [hk 4 (by omega) (by omega)]; exact h3, h3'⟩, h4, h5, fun j hj => ?_, fun k w hw => ?_⟩
  · obtain ⟨⟨t, a⟩, xs, b⟩ := h6 j hj
    exact ⟨⟨t, by rw [hk _ (by omega) (by omega)]; exact a⟩, xs, b.keep (hk _ (by omega) (by omega)) (hk _ (by omega) (by omega))⟩
  · obtain ⟨a, b, d⟩ := h7 k w hw
    have := h4 k (by have := wd_lt_of hw; omega)
    exact ⟨by rw [hk _ (by omega) (by omega)]; exact a, b.keep (hk _ (by omega) (by omega)) (hk _ (by omega) (by omega)), d⟩
/-- a table of ints: its object at role k (of class c), its rows at role k + 1, row i at role k + 2 + i -/
def pT (G : zG) (ad : Nat → Nat) (en : Nat → va_E) (k c wd : Nat) (M : Nat → Nat → Int32) : Prop := en k = .inr (c, [.ref (ad (k + 1))]) ∧ (∃ g : Nat → Option Nat, en (k + 1) = .inl (zM G, 11, z_refs g) ∧ ∀ i, i < 11 → g i = some (ad (k + 2 + i))) ∧ ∀ i, i < 11 → en (k + 2 + i) = .inl (zI G, wd, .inl (M i))
theorem pT.keep {G : zG} {ad : Nat → Nat} {en en1 : Nat → va_E} {k c wd : Nat} {M : Nat → Nat → Int32} (h : pT G ad en k c wd M) (hk : ∀ r, k ≤ r → r < k + 13 → en1 r = en r) : pT G ad en1 k c wd M := by
  obtain ⟨h1, ⟨g, h2, h2'⟩, h3⟩ := h
  exact ⟨by rw [hk k (by omega) (by omega)]; exact h1, ⟨g, by rw [hk _ (by omega) (by omega)]; exact h2, h2'⟩, fun i hi => by rw [hk _ (by omega) (by omega)]; exact h3 i hi⟩
/-- one number of a table is written -/
def tset (M : Nat → Nat → Int32) (i j : Nat) (x : Int32) : Nat → Nat → Int32 := fun a b => if a = i ∧ b = j then x else M a b
theorem pT.set {G : zG} {ad : Nat → Nat} {en : Nat → va_E} {k c wd : Nat} {M : Nat → Nat → Int32} (h : pT G ad en k c wd M) {i j : Nat} {x : Int32} (hi : i < 11) : pT G ad (va_up en (k + 2 + i) (.inl (zI G, wd, .inl (upd (M i) j x)))) k c wd (tset M i j x) := by
  obtain ⟨h1, ⟨g, h2, h2'⟩, h3⟩ := h
  refine ⟨by rw [va_up_ne _ _ (by omega)]; exact h1, ⟨g, by rw [va_up_ne _ _ (by omega)]; exact h2, h2'⟩, fun a ha => ?_⟩
  by_cases e : a = i
  · subst e
    rw [va_up_self]
    congr 4
    funext b
    unfold upd tset
    by_cases q : b = j
    · rw [if_pos q, if_pos ⟨rfl, q⟩]
    · rw [if_neg q, if_neg (fun z => q z.2)]
  · rw [va_up_ne _ _ (by omega), h3 a ha]
    congr 4
    funext b
    unfold tset
    rw [if_neg (fun z => e z.1)]
/-- the desk -/
def pS (G : zG) (ad : Nat → Nat) (en : Nat → va_E) (T : List Nat) (sg : Nat → Nat) (C : List wd_W) : Prop :=
  en 0 = .inr (kS, [.ref (ad 1), .ref (ad 3), .ref (ad 77), .ref (ad 90), .ref (ad 103)]) ∧ pL G ad en 1 2 10 T ∧ pD G ad en sg C ∧ (∃ M, pT G ad en 77 kE 9 M) ∧ (∃ M, pT G ad en 90 kR 11 M) ∧ ∃ f : Nat → Int32, en 103 = .inl (zI G, 24, .inl f)
/-- the reference: its object at role 104, its rows behind it -/
def pM (G : zG) (ad : Nat → Nat) (en : Nat → va_E) (T : List Nat) (mw : List wd_W) : Prop :=
  en 104 = .inr (kM, [.ref (ad 105), .int (nI T.length), .ref (ad 106), .ref (ad 107), .ref (ad 108), .int (nI mw.length), .ref (ad 109), .ref (ad 110)]) ∧ T.length ≤ 10 ∧ w26 T ∧ mw.length ≤ 24 ∧ (∃ f : Nat → Int32, en 105 = .inl (zI G, 10, .inl f) ∧ ∀ i, i < T.length → f i = nI (T.getD i 0)) ∧
  (∃ fl fs fc : Nat → Int32, en 106 = .inl (zI G, 192, .inl fl) ∧ en 107 = .inl (zI G, 24, .inl fs) ∧ en 108 = .inl (zI G, 24, .inl fc) ∧ ∀ w v, mw[w]? = some v → v.1.length ≤ 8 ∧ w26 v.1 ∧ v.2 ≤ 1000000 ∧ fs w = nI v.1.length ∧ fc w = nI v.2 ∧ ∀ i, i < v.1.length → fl (8 * w + i) = nI (v.1.getD i 0)) ∧
  (∃ f : Nat → Int32, en 109 = .inl (zI G, 99, .inl f)) ∧ ∃ f : Nat → Int64, en 110 = .inl (zJ G, 252, .inr (.inl f))
