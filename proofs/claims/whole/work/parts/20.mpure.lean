/-! the reference's picture -/
theorem pM.k109 {G : zG} {ad : Nat → Nat} {en en1 : Nat → va_E} {T : List Nat} {mw : List wd_W} (h : pM G ad en T mw) {f : Nat → Int32} (h9 : en1 109 = .inl (zI G, 99, .inl f)) (hfr : ∀ r, r ≠ 109 → en1 r = en r) : pM G ad en1 T mw := by
  obtain ⟨p1, p2, p26, p3, ⟨ft, p4, p5⟩, ⟨fl, fs, fc, p6, p7, p8, p9⟩, -, fj, p11⟩ := h
  exact ⟨by rw [hfr _ (by omega)]; exact p1, p2, p26, p3, ⟨ft, by rw [hfr _ (by omega)]; exact p4, p5⟩, ⟨fl, fs, fc, by rw [hfr _ (by omega)]; exact p6, by rw [hfr _ (by omega)]; exact p7, by rw [hfr _ (by omega)]; exact p8, p9⟩, ⟨f, h9⟩, fj, by rw [hfr _ (by omega)]; exact p11⟩
theorem pM.k110 {G : zG} {ad : Nat → Nat} {en en1 : Nat → va_E} {T : List Nat} {mw : List wd_W} (h : pM G ad en T mw) {f : Nat → Int64} (h9 : en1 110 = .inl (zJ G, 252, .inr (.inl f))) (hfr : ∀ r, r ≠ 110 → en1 r = en r) : pM G ad en1 T mw := by
  obtain ⟨p1, p2, p26, p3, ⟨ft, p4, p5⟩, ⟨fl, fs, fc, p6, p7, p8, p9⟩, ⟨fr, p10⟩, -⟩ := h
  exact ⟨by rw [hfr _ (by omega)]; exact p1, p2, p26, p3, ⟨ft, by rw [hfr _ (by omega)]; exact p4, p5⟩, ⟨fl, fs, fc, by rw [hfr _ (by omega)]; exact p6, by rw [hfr _ (by omega)]; exact p7, by rw [hfr _ (by omega)]; exact p8, p9⟩, ⟨fr, by rw [hfr _ (by omega)]; exact p10⟩, f, h9⟩
theorem pM.low {G : zG} {ad : Nat → Nat} {en en1 : Nat → va_E} {T : List Nat} {mw : List wd_W} (h : pM G ad en T mw) (hfr : ∀ r, 104 ≤ r → en1 r = en r) : pM G ad en1 T mw := by
  obtain ⟨p1, p2, p26, p3, ⟨ft, p4, p5⟩, ⟨fl, fs, fc, p6, p7, p8, p9⟩, ⟨fr, p10⟩, fj, p11⟩ := h
  exact ⟨by rw [hfr _ (by omega)]; exact p1, p2, p26, p3, ⟨ft, by rw [hfr _ (by omega)]; exact p4, p5⟩, ⟨fl, fs, fc, by rw [hfr _ (by omega)]; exact p6, by rw [hfr _ (by omega)]; exact p7, by rw [hfr _ (by omega)]; exact p8, p9⟩, ⟨fr, by rw [hfr _ (by omega)]; exact p10⟩, fj, by rw [hfr _ (by omega)]; exact p11⟩
theorem pS.high {G : zG} {ad : Nat → Nat} {en en1 : Nat → va_E} {T : List Nat} {sg : Nat → Nat} {C : List wd_W} (h : pS G ad en T sg C) (hfr : ∀ r, r < 104 → en1 r = en r) : pS G ad en1 T sg C := by
  obtain ⟨s0, sL, sD, ⟨ME, sE⟩, ⟨MR, sR⟩, fd, sF⟩ := h
  exact ⟨by rw [hfr 0 (by omega)]; exact s0, sL.keep (hfr 1 (by omega)) (hfr 2 (by omega)), sD.keep (fun r h1 h2 => hfr r (by omega)), ⟨ME, sE.keep (fun r h1 h2 => hfr r (by omega))⟩, ⟨MR, sR.keep (fun r h1 h2 => hfr r (by omega))⟩, fd, by rw [hfr 103 (by omega)]; exact sF⟩
theorem wd_rm_at {l : List wd_W} {w k : Nat} {v : wd_W} (hk : (wd_rm l w)[k]? = some v) : k < l.length - 1 ∧ ((k = w ∧ l[l.length - 1]? = some v) ∨ (k ≠ w ∧ l[k]? = some v)) := by
  have hl := wd_lt_of hk
  rw [wd_rm_len] at hl
  refine ⟨hl, ?_⟩
  unfold wd_rm at hk
  rw [List.getElem?_take, if_pos hl] at hk
  by_cases e : k = w
  · left
    subst e
    rw [List.getElem?_set_self (by omega)] at hk
    refine ⟨rfl, ?_⟩
    rw [← hk, List.getD_eq_getElem?_getD, List.getElem?_eq_getElem (by omega)]
    rfl
  · right
    rw [List.getElem?_set_ne (Ne.symm e)] at hk
    exact ⟨e, hk⟩
/-- ranks, out of the words in any order -/
theorem wd_rank2 {C mw : List wd_W} (hp : C.Perm mw) (hso : wd_so C) {w : Nat} {u : wd_W} (hw : mw[w]? = some u) : ∃ j, C[j]? = some u ∧ mw.countP (fun v => wd_lt v.1 u.1) = j := by
  obtain ⟨j, hj⟩ := wd_mem hp hw
  exact ⟨j, hj, by rw [← hp.countP_eq]; exact wd_rank hso hj⟩
