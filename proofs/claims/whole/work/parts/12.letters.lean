theorem wd_take_s {ys : List Nat} {i : Nat} (h : i < ys.length) : ys.take (i + 1) = ys.take i ++ [ys.getD i 0] := by
  rw [List.take_succ, List.getD_eq_getElem?_getD, List.getElem?_eq_getElem h]; rfl
set_option maxHeartbeats 4000000 in
set_option maxRecDepth 100000 in
theorem c_L_at (l : Launch) {G : zG} {ad : Nat → Nat} {en : Nat → va_E} {N : Nat} {k ka cap : Nat} {xs : List Nat} (hk : k < N) (hka : ka < N) (hne : k ≠ ka) (hcap : cap < 2 ^ 31) (h : pL G ad en k ka cap xs) (i : Int32) : zMi l y_L_at b_L_at 2 .int 1 G ad en N [.ref (ad (k)), .int (i)] (fun v en1 => en1 = en ∧ v = iv (atv xs i)) := by
  obtain ⟨e1, h1, h26, f, e2, h2⟩ := h
  refine z_met (by decide) (Nat.le_of_ble_eq_true rfl) ?_
  intro p e s m below meth c ls hF hr hlocks hnam hZ hl
  have hF : CallFix p m c b_L_at 2 s ([.ref (ad (k)), .int (i)] : List Value).toArray zz R_L := hF
  have hl : lv_has ls 2 [(0, .ref (ad (k))), (1, .int (i))] := hl
  rcases pk_ix i (n := xs.length) (by omega) with h3 | h3 | ⟨j, hj, rfl⟩
  · refine lv_iload_n hF.1 hF.2.1 d_L_at_0 rfl (lv_at hl 1 rfl) ?_
    refine lv_if_lt (tgt := 21) hF.1 hF.2.1 d_L_at_1 (by decide) (fun _ => ?_) (fun h => absurd h3 h)
    refine lv_iconst (v := ((-1))) hF.1 hF.2.1 d_L_at_21 (by decide) ?_
    exact z_iret hF hr hlocks hZ rfl ⟨rfl, by rw [atv_neg h3]; exact iv_0.symm⟩ d_L_at_22
  · have h4 : ¬ i < 0 := fun q => by
      rw [Int32.lt_iff_toInt_lt, Int32.toInt_zero] at q
      rw [Int32.le_iff_toInt_le, nI_toInt (by omega)] at h3
      omega
    refine lv_iload_n hF.1 hF.2.1 d_L_at_0 rfl (lv_at hl 1 rfl) ?_
    refine lv_if_lt (tgt := 21) hF.1 hF.2.1 d_L_at_1 (by decide) (fun h => absurd h h4) (fun _ => ?_)
    refine lv_iload_n hF.1 hF.2.1 d_L_at_4 rfl (lv_at hl 1 rfl) ?_
    refine lv_aload_n hF.1 hF.2.1 d_L_at_5 rfl (lv_at hl 0 rfl) ?_
    refine gf_L_15 hF hZ (k) hk e1 rfl d_L_at_6 ?_
    refine lv_icmp_ge (tgt := 21) hF.1 hF.2.1 d_L_at_9 (by decide) (fun _ => ?_) (fun h => absurd h3 h)
    refine lv_iconst (v := ((-1))) hF.1 hF.2.1 d_L_at_21 (by decide) ?_
    exact z_iret hF hr hlocks hZ rfl ⟨rfl, by rw [atv_big (by omega) h3 (Nat.le_refl _)]; exact iv_0.symm⟩ d_L_at_22
  · refine lv_iload_n hF.1 hF.2.1 d_L_at_0 rfl (lv_at hl 1 rfl) ?_
    refine lv_if_lt (tgt := 21) hF.1 hF.2.1 d_L_at_1 (by decide) (fun h => absurd h (nI_pos (by omega))) (fun _ => ?_)
    refine lv_iload_n hF.1 hF.2.1 d_L_at_4 rfl (lv_at hl 1 rfl) ?_
    refine lv_aload_n hF.1 hF.2.1 d_L_at_5 rfl (lv_at hl 0 rfl) ?_
    refine gf_L_15 hF hZ (k) hk e1 rfl d_L_at_6 ?_
    refine lv_icmp_ge (tgt := 21) hF.1 hF.2.1 d_L_at_9 (by decide) (fun h => absurd h (nI_ge hj (by omega))) (fun _ => ?_)
    refine lv_aload_n hF.1 hF.2.1 d_L_at_12 rfl (lv_at hl 0 rfl) ?_
    refine gf_L_9 hF hZ (k) hk e1 rfl d_L_at_13 ?_
    refine lv_iload_n hF.1 hF.2.1 d_L_at_16 rfl (lv_at hl 1 rfl) ?_
    refine z_iald hF hZ (ka) hka e2 (j) (by omega) (by omega) d_L_at_17 ?_
    refine lv_goto (tgt := 22) hF.1 hF.2.1 d_L_at_18 (by decide) ?_
    exact z_iret hF hr hlocks hZ rfl ⟨rfl, by rw [atv_nI (by omega), wd_cd_in hj, iv_s, h2 j hj]⟩ d_L_at_22
theorem c_L_atN (l : Launch) {G : zG} {ad : Nat → Nat} {en : Nat → va_E} {N : Nat} {k ka cap : Nat} {xs : List Nat} (hk : k < N) (hka : ka < N) (hne : k ≠ ka) (hcap : cap < 2 ^ 31) (h : pL G ad en k ka cap xs) {j : Nat} (hj : j < 2 ^ 31) : zMi l y_L_at b_L_at 2 .int 1 G ad en N [.ref (ad (k)), .int (nI (j))] (fun v en1 => en1 = en ∧ v = iv (wd_cd xs j)) := by
  have q := c_L_at l hk hka hne hcap h (nI j)
  rw [atv_nI hj] at q
  exact q
set_option maxHeartbeats 4000000 in
set_option maxRecDepth 100000 in
theorem c_L_append (l : Launch) {G : zG} {ad : Nat → Nat} {en : Nat → va_E} {N : Nat} {k ka cap : Nat} {xs : List Nat} (hk : k < N) (hka : ka < N) (hne : k ≠ ka) (hcap : cap < 2 ^ 31) (h : pL G ad en k ka cap xs) {x : Nat} (hx : x < 26) (hlen : xs.length < cap) : zMi l y_L_append b_L_append 2 .boolean 1 G ad en N [.ref (ad (k)), .int (nI (x))] (fun v en1 => v = 1 ∧ pL G ad en1 k ka cap (xs ++ [x]) ∧ ∀ r, r ≠ k → r ≠ ka → en1 r = en r) := by
  obtain ⟨e1, h1, h26, f, e2, h2⟩ := h
  refine z_met (by decide) (Nat.le_of_ble_eq_true rfl) ?_
  intro p e s m below meth c ls hF hr hlocks hnam hZ hl
  have hF : CallFix p m c b_L_append 2 s ([.ref (ad (k)), .int (nI (x))] : List Value).toArray zz R_L := hF
  have hl : lv_has ls 2 [(0, .ref (ad (k))), (1, .int (nI (x)))] := hl
  refine lv_iload_n hF.1 hF.2.1 d_L_append_0 rfl (lv_at hl 1 rfl) ?_
  refine lv_if_lt (tgt := 22) hF.1 hF.2.1 d_L_append_1 (by decide) (fun h => absurd h (nI_pos (by omega))) (fun _ => ?_)
  refine lv_iload_n hF.1 hF.2.1 d_L_append_4 rfl (lv_at hl 1 rfl) ?_
  refine lv_bipush (v := (nI (26))) hF.1 hF.2.1 d_L_append_5 (by decide) ?_
  refine lv_icmp_ge (tgt := 22) hF.1 hF.2.1 d_L_append_7 (by decide) (fun h => absurd h (nI_ge hx (by omega))) (fun _ => ?_)
  refine lv_aload_n hF.1 hF.2.1 d_L_append_10 rfl (lv_at hl 0 rfl) ?_
  refine gf_L_15 hF hZ (k) hk e1 rfl d_L_append_11 ?_
  refine lv_aload_n hF.1 hF.2.1 d_L_append_14 rfl (lv_at hl 0 rfl) ?_
  refine gf_L_9 hF hZ (k) hk e1 rfl d_L_append_15 ?_
  refine z_alen hF hZ (ka) hka e2 d_L_append_18 ?_
  refine lv_icmp_lt (tgt := 24) hF.1 hF.2.1 d_L_append_19 (by decide) (fun _ => ?_) (fun h => absurd (nI_lt hlen hcap) h)
  refine lv_aload_n hF.1 hF.2.1 d_L_append_24 rfl (lv_at hl 0 rfl) ?_
  refine gf_L_9 hF hZ (k) hk e1 rfl d_L_append_25 ?_
  refine lv_aload_n hF.1 hF.2.1 d_L_append_28 rfl (lv_at hl 0 rfl) ?_
  refine gf_L_15 hF hZ (k) hk e1 rfl d_L_append_29 ?_
  refine lv_iload_n hF.1 hF.2.1 d_L_append_32 rfl (lv_at hl 1 rfl) ?_
  refine z_iast hF hZ (ka) hka e2 (xs.length) (by omega) (by omega) d_L_append_33 (fun H locs hZ => ?_)
  obtain ⟨ze1, hn2⟩ : ∃ z, z = va_up en (ka) (.inl (zI G, cap, .inl (upd (f) (xs.length) (nI (x))))) := ⟨_, rfl⟩
  have hZ : zH G ad ze1 N s H locs := hZ.to hn2.symm
  have ff3 : ze1 (k) = .inr (kL, [.ref (ad (ka)), .int (nI (xs.length))]) := by rw [hn2, va_up_ne _ _ (by omega)]; exact e1
  have ff4 : ze1 (ka) = .inl (zI G, cap, .inl (upd (f) (xs.length) (nI (x)))) := by rw [hn2]; exact va_up_self _ _ _
  refine lv_aload_n hF.1 hF.2.1 d_L_append_34 rfl (lv_at hl 0 rfl) ?_
  refine lv_dup hF.1 hF.2.1 d_L_append_35 rfl ?_
  refine gf_L_15 hF hZ (k) hk ff3 rfl d_L_append_36 ?_
  refine lv_iconst (v := (nI (1))) hF.1 hF.2.1 d_L_append_39 (by decide) ?_
  refine lv_iadd hF.1 hF.2.1 d_L_append_40 ?_
  refine z_top (nI_add (xs.length) (1)) ?_
  refine pf_L_15 hF hZ (k) hk ff3 (Nat.le_of_ble_eq_true rfl) d_L_append_41 (fun H locs hZ => ?_)
  obtain ⟨ze5, hn6⟩ : ∃ z, z = va_up ze1 (k) (.inr (kL, [.ref (ad (ka)), .int (nI (xs.length + 1))])) := ⟨_, rfl⟩
  have hZ : zH G ad ze5 N s H locs := hZ.to hn6.symm
  have ff7 : ze5 (ka) = .inl (zI G, cap, .inl (upd (f) (xs.length) (nI (x)))) := by rw [hn6, va_up_ne _ _ (by omega)]; exact ff4
  have ff8 : ze5 (k) = .inr (kL, [.ref (ad (ka)), .int (nI (xs.length + 1))]) := by rw [hn6]; exact va_up_self _ _ _
  refine lv_iconst (v := (nI (1))) hF.1 hF.2.1 d_L_append_44 (by decide) ?_
  have hx2 : ∀ r, r ≠ k → r ≠ ka → ze5 r = en r := fun r q1 q2 => by subst ze5; rw [va_up_ne _ _ q1]; subst ze1; rw [va_up_ne _ _ q2]
  refine z_iret hF hr hlocks hZ (by decide) ⟨by decide, ⟨by rw [List.length_append]; exact ff8, by rw [List.length_append]; exact hlen, w26_app h26 hx, _, ff7, fun i hi => ?_⟩, hx2⟩ d_L_append_45
  by_cases q : i = xs.length
  · subst q
    rw [pk_us, getD_app_e]
  · rw [List.length_append, List.length_singleton] at hi
    rw [pk_un q, getD_app_l (by omega)]
    exact h2 i (by omega)
set_option maxHeartbeats 4000000 in
set_option maxRecDepth 100000 in
theorem c_L_appendNo (l : Launch) {G : zG} {ad : Nat → Nat} {en : Nat → va_E} {N : Nat} {k ka cap : Nat} {xs : List Nat} (hk : k < N) (hka : ka < N) (hne : k ≠ ka) (hcap : cap < 2 ^ 31) (h : pL G ad en k ka cap xs) {x : Int32} (hno : x < 0 ∨ nI 26 ≤ x ∨ cap ≤ xs.length) : zMi l y_L_append b_L_append 2 .boolean 1 G ad en N [.ref (ad (k)), .int (x)] (fun v en1 => v = 0 ∧ en1 = en) := by
  obtain ⟨e1, h1, h26, f, e2, h2⟩ := h
  refine z_met (by decide) (Nat.le_of_ble_eq_true rfl) ?_
  intro p e s m below meth c ls hF hr hlocks hnam hZ hl
  have hF : CallFix p m c b_L_append 2 s ([.ref (ad (k)), .int (x)] : List Value).toArray zz R_L := hF
  have hl : lv_has ls 2 [(0, .ref (ad (k))), (1, .int (x))] := hl
  refine lv_iload_n hF.1 hF.2.1 d_L_append_0 rfl (lv_at hl 1 rfl) ?_
  refine lv_if_lt (tgt := 22) hF.1 hF.2.1 d_L_append_1 (by decide) (fun q1 => ?_) (fun q1 => ?_)
  · refine lv_iconst (v := (nI (0))) hF.1 hF.2.1 d_L_append_22 (by decide) ?_
    exact z_iret hF hr hlocks hZ (by decide) ⟨by decide, rfl⟩ d_L_append_23
  · refine lv_iload_n hF.1 hF.2.1 d_L_append_4 rfl (lv_at hl 1 rfl) ?_
    refine lv_bipush (v := (nI (26))) hF.1 hF.2.1 d_L_append_5 (by decide) ?_
    refine lv_icmp_ge (tgt := 22) hF.1 hF.2.1 d_L_append_7 (by decide) (fun q2 => ?_) (fun q2 => ?_)
    · refine lv_iconst (v := (nI (0))) hF.1 hF.2.1 d_L_append_22 (by decide) ?_
      exact z_iret hF hr hlocks hZ (by decide) ⟨by decide, rfl⟩ d_L_append_23
    · refine lv_aload_n hF.1 hF.2.1 d_L_append_10 rfl (lv_at hl 0 rfl) ?_
      refine gf_L_15 hF hZ (k) hk e1 rfl d_L_append_11 ?_
      refine lv_aload_n hF.1 hF.2.1 d_L_append_14 rfl (lv_at hl 0 rfl) ?_
      refine gf_L_9 hF hZ (k) hk e1 rfl d_L_append_15 ?_
      refine z_alen hF hZ (ka) hka e2 d_L_append_18 ?_
      refine lv_icmp_lt (tgt := 24) hF.1 hF.2.1 d_L_append_19 (by decide) (fun q3 => ?_) (fun q3 => ?_)
      · exact absurd ((nI_ltI (by omega) (by omega)).mp q3) (by rcases hno with z | z | z; exact absurd z q1; exact absurd z q2; omega)
      · refine lv_iconst (v := (nI (0))) hF.1 hF.2.1 d_L_append_22 (by decide) ?_
        exact z_iret hF hr hlocks hZ (by decide) ⟨by decide, rfl⟩ d_L_append_23
set_option maxHeartbeats 4000000 in
set_option maxRecDepth 100000 in
theorem c_L_removeLast (l : Launch) {G : zG} {ad : Nat → Nat} {en : Nat → va_E} {N : Nat} {k ka cap : Nat} {xs : List Nat} (hk : k < N) (hka : ka < N) (hne : k ≠ ka) (hcap : cap < 2 ^ 31) (h : pL G ad en k ka cap xs) (hlen : 0 < xs.length) : zMi l y_L_removeLast b_L_removeLast 1 .boolean 1 G ad en N [.ref (ad (k))] (fun v en1 => v = 1 ∧ pL G ad en1 k ka cap (xs.take (xs.length - 1)) ∧ ∀ r, r ≠ k → en1 r = en r) := by
  obtain ⟨e1, h1, h26, f, e2, h2⟩ := h
  refine z_met (by decide) (Nat.le_of_ble_eq_true rfl) ?_
  intro p e s m below meth c ls hF hr hlocks hnam hZ hl
  have hF : CallFix p m c b_L_removeLast 1 s ([.ref (ad (k))] : List Value).toArray zz R_L := hF
  have hl : lv_has ls 1 [(0, .ref (ad (k)))] := hl
  refine lv_aload_n hF.1 hF.2.1 d_L_removeLast_0 rfl (lv_at hl 0 rfl) ?_
  refine gf_L_15 hF hZ (k) hk e1 rfl d_L_removeLast_1 ?_
  refine lv_if_ne (tgt := 9) hF.1 hF.2.1 d_L_removeLast_4 (by decide) (fun _ => ?_) (fun h => absurd h (nI_ne0 hlen (by omega)))
  refine lv_aload_n hF.1 hF.2.1 d_L_removeLast_9 rfl (lv_at hl 0 rfl) ?_
  refine lv_dup hF.1 hF.2.1 d_L_removeLast_10 rfl ?_
  refine gf_L_15 hF hZ (k) hk e1 rfl d_L_removeLast_11 ?_
  refine lv_iconst (v := (nI (1))) hF.1 hF.2.1 d_L_removeLast_14 (by decide) ?_
  refine lv_isub hF.1 hF.2.1 d_L_removeLast_15 ?_
  refine z_top (pk_sub (show 1 ≤ xs.length by omega)) ?_
  refine pf_L_15 hF hZ (k) hk e1 (Nat.le_of_ble_eq_true rfl) d_L_removeLast_16 (fun H locs hZ => ?_)
  obtain ⟨ze1, hn2⟩ : ∃ z, z = va_up en (k) (.inr (kL, [.ref (ad (ka)), .int (nI (xs.length - (1)))])) := ⟨_, rfl⟩
  have hZ : zH G ad ze1 N s H locs := hZ.to hn2.symm
  have ff3 : ze1 (ka) = .inl (zI G, cap, .inl (f)) := by rw [hn2, va_up_ne _ _ (by omega)]; exact e2
  have ff4 : ze1 (k) = .inr (kL, [.ref (ad (ka)), .int (nI (xs.length - (1)))]) := by rw [hn2]; exact va_up_self _ _ _
  refine lv_iconst (v := (nI (1))) hF.1 hF.2.1 d_L_removeLast_19 (by decide) ?_
  refine z_iret hF hr hlocks hZ (by decide) ⟨by decide, ⟨by rw [List.length_take, Nat.min_eq_left (by omega)]; exact ff4, by rw [List.length_take]; omega, w26_take _ h26, _, ff3, fun i hi => ?_⟩, fun r q => by subst ze1; rw [va_up_ne _ _ q]⟩ d_L_removeLast_20
  rw [List.length_take] at hi
  rw [getD_take (by omega)]
  exact h2 i (by omega)
set_option maxHeartbeats 4000000 in
set_option maxRecDepth 100000 in
theorem c_L_removeLastNo (l : Launch) {G : zG} {ad : Nat → Nat} {en : Nat → va_E} {N : Nat} {k ka cap : Nat} {xs : List Nat} (hk : k < N) (hka : ka < N) (hne : k ≠ ka) (hcap : cap < 2 ^ 31) (h : pL G ad en k ka cap xs) (hlen : xs.length = 0) : zMi l y_L_removeLast b_L_removeLast 1 .boolean 1 G ad en N [.ref (ad (k))] (fun v en1 => v = 0 ∧ en1 = en) := by
  obtain ⟨e1, h1, h26, f, e2, h2⟩ := h
  refine z_met (by decide) (Nat.le_of_ble_eq_true rfl) ?_
  intro p e s m below meth c ls hF hr hlocks hnam hZ hl
  have hF : CallFix p m c b_L_removeLast 1 s ([.ref (ad (k))] : List Value).toArray zz R_L := hF
  have hl : lv_has ls 1 [(0, .ref (ad (k)))] := hl
  refine lv_aload_n hF.1 hF.2.1 d_L_removeLast_0 rfl (lv_at hl 0 rfl) ?_
  refine gf_L_15 hF hZ (k) hk e1 rfl d_L_removeLast_1 ?_
  refine lv_if_ne (tgt := 9) hF.1 hF.2.1 d_L_removeLast_4 (by decide) (fun h => absurd (show nI xs.length = 0 by rw [hlen]; rfl) h) (fun _ => ?_)
  refine lv_iconst (v := (nI (0))) hF.1 hF.2.1 d_L_removeLast_7 (by decide) ?_
  exact z_iret hF hr hlocks hZ (by decide) ⟨by decide, rfl⟩ d_L_removeLast_8
set_option maxHeartbeats 4000000 in
set_option maxRecDepth 100000 in
theorem c_L_clear (l : Launch) {G : zG} {ad : Nat → Nat} {en : Nat → va_E} {N : Nat} {k ka cap : Nat} {xs : List Nat} (hk : k < N) (hka : ka < N) (hne : k ≠ ka) (hcap : cap < 2 ^ 31) (h : pL G ad en k ka cap xs) : zMv l y_L_clear b_L_clear 1 1 G ad en N [.ref (ad (k))] (fun en1 => pL G ad en1 k ka cap [] ∧ ∀ r, r ≠ k → en1 r = en r) := by
  obtain ⟨e1, h1, h26, f, e2, h2⟩ := h
  refine z_met (by decide) (Nat.le_of_ble_eq_true rfl) ?_
  intro p e s m below meth c ls hF hr hlocks hnam hZ hl
  have hF : CallFix p m c b_L_clear 1 s ([.ref (ad (k))] : List Value).toArray zz R_L := hF
  have hl : lv_has ls 1 [(0, .ref (ad (k)))] := hl
  refine lv_aload_n hF.1 hF.2.1 d_L_clear_0 rfl (lv_at hl 0 rfl) ?_
  refine lv_iconst (v := (nI (0))) hF.1 hF.2.1 d_L_clear_1 (by decide) ?_
  refine pf_L_15 hF hZ (k) hk e1 (Nat.le_of_ble_eq_true rfl) d_L_clear_2 (fun H locs hZ => ?_)
  obtain ⟨ze1, hn2⟩ : ∃ z, z = va_up en (k) (.inr (kL, [.ref (ad (ka)), .int (nI (0))])) := ⟨_, rfl⟩
  have hZ : zH G ad ze1 N s H locs := hZ.to hn2.symm
  have ff3 : ze1 (ka) = .inl (zI G, cap, .inl (f)) := by rw [hn2, va_up_ne _ _ (by omega)]; exact e2
  have ff4 : ze1 (k) = .inr (kL, [.ref (ad (ka)), .int (nI (0))]) := by rw [hn2]; exact va_up_self _ _ _
  exact z_vret hF hr hlocks hZ ⟨⟨ff4, Nat.zero_le _, w26_nil, _, ff3, fun i hi => absurd hi (Nat.not_lt_zero _)⟩, fun r q => by subst ze1; rw [va_up_ne _ _ q]⟩ d_L_clear_5
set_option maxHeartbeats 4000000 in
set_option maxRecDepth 100000 in
theorem c_L_copyFrom (l : Launch) {G : zG} {ad : Nat → Nat} {en : Nat → va_E} {N : Nat} {k ka cap : Nat} {xs : List Nat} (hk : k < N) (hka : ka < N) (hne : k ≠ ka) (hcap : cap < 2 ^ 31) (h : pL G ad en k ka cap xs) {k2 ka2 cap2 : Nat} {ys : List Nat} (hk2 : k2 < N) (hka2 : ka2 < N) (hne2 : k2 ≠ ka2) (hcap2 : cap2 < 2 ^ 31) (g : pL G ad en k2 ka2 cap2 ys) (d1 : k2 ≠ k) (d2 : k2 ≠ ka) (d3 : ka2 ≠ k) (d4 : ka2 ≠ ka) (hlen : ys.length ≤ cap) : zMv l y_L_copyFrom b_L_copyFrom 3 2 G ad en N [.ref (ad (k)), .ref (ad (k2))] (fun en1 => pL G ad en1 k ka cap ys ∧ ∀ r, r ≠ k → r ≠ ka → en1 r = en r) := by
  refine z_met (by decide) (Nat.le_of_ble_eq_true rfl) ?_
  intro p e s m below meth c ls hF hr hlocks hnam hZ hl
  have hF : CallFix p m c b_L_copyFrom 3 s ([.ref (ad (k)), .ref (ad (k2))] : List Value).toArray zz R_L := hF
  have hl : lv_has ls 3 [(0, .ref (ad (k))), (1, .ref (ad (k2)))] := hl
  have loop : ∀ (n i : Nat) (en1 : Nat → va_E) (H : Heap) (locs : List Loc) (ls : Array Slot), (i + n = ys.length) → (pL G ad en1 k ka cap (ys.take i)) → (∀ r, r ≠ k → r ≠ ka → en1 r = en r) → lv_has ls 3 [(2, .int (nI (i))), (0, .ref (ad (k))), (1, .ref (ad (k2)))] → zH G ad en1 N s H locs → W p l e (zR 2) s m ([.ref (ad (k)), .ref (ad (k2))] : List Value).toArray below meth c H locs 0 0 (MQ below (zQv G ad N (fun en1 => pL G ad en1 k ka cap ys ∧ ∀ r, r ≠ k → r ≠ ka → en1 r = en r)) ([.ref (ad (k)), .ref (ad (k2))] : List Value).toArray s 0 0 (zA G)) (F0 m 6 ls []) := by
    intro n
    induction n with
    | zero =>
      intro i en1 H locs ls hin hp hfr hl hZ
      have g2 := g.keep (hfr k2 d1 d2) (hfr ka2 d3 d4)
      obtain ⟨e3, g1, g26, f2, e4, g5⟩ := g2
      refine lv_iload_n hF.1 hF.2.1 d_L_copyFrom_6 rfl (lv_at hl 0 rfl) ?_
      refine lv_aload_n hF.1 hF.2.1 d_L_copyFrom_7 rfl (lv_at hl 2 rfl) ?_
      refine gf_L_15 hF hZ (k2) hk2 e3 rfl d_L_copyFrom_8 ?_
      refine lv_icmp_ge (tgt := 30) hF.1 hF.2.1 d_L_copyFrom_11 (by decide) (fun _ => ?_) (fun h => absurd (nI_le (by omega) (by omega)) h)
      exact z_vret hF hr hlocks hZ ⟨by rw [List.take_of_length_le (by omega)] at hp; exact hp, hfr⟩ d_L_copyFrom_30
    | succ n ih =>
      intro i en1 H locs ls hin hp hfr hl hZ
      have g2 := g.keep (hfr k2 d1 d2) (hfr ka2 d3 d4)
      have g3 := g2
      obtain ⟨e3, g1, g26, f2, e4, g5⟩ := g3
      have hp3 := hp
      obtain ⟨e1, h1, h26, f, e2, h2⟩ := hp3
      refine lv_iload_n hF.1 hF.2.1 d_L_copyFrom_6 rfl (lv_at hl 0 rfl) ?_
      refine lv_aload_n hF.1 hF.2.1 d_L_copyFrom_7 rfl (lv_at hl 2 rfl) ?_
      refine gf_L_15 hF hZ (k2) hk2 e3 rfl d_L_copyFrom_8 ?_
      refine lv_icmp_ge (tgt := 30) hF.1 hF.2.1 d_L_copyFrom_11 (by decide) (fun h => absurd h (nI_ge (show i < ys.length by omega) (by omega))) (fun _ => ?_)
      refine lv_aload_n hF.1 hF.2.1 d_L_copyFrom_14 rfl (lv_at hl 1 rfl) ?_
      refine lv_aload_n hF.1 hF.2.1 d_L_copyFrom_15 rfl (lv_at hl 2 rfl) ?_
      refine lv_iload_n hF.1 hF.2.1 d_L_copyFrom_16 rfl (lv_at hl 0 rfl) ?_
      refine z_calli hZ (z_run cw_L_22 hF hZ (k2) (c_L_atN l hk2 hka2 hne2 hcap2 g2 (j := i) (by omega)) (by decide) hk2 e3 rfl rfl hl.1 rfl (Nat.le_of_ble_eq_true rfl) d_L_copyFrom_17) (fun v enq H locs hp hZ => ?_)
      obtain ⟨he, hv⟩ := hp
      subst hv
      have hZ := hZ.to he
      refine z_top (show iv (wd_cd ys i) = nI (ys.getD i 0) by rw [wd_cd_in (by omega), iv_s]) ?_
      refine z_calli hZ (z_run cw_L_26 hF hZ (k) (c_L_append l hk hka hne hcap hp (x := ys.getD i 0) (g26 i) (by rw [List.length_take]; omega)) (by decide) hk e1 rfl rfl hl.1 rfl (Nat.le_of_ble_eq_true rfl) d_L_copyFrom_20) (fun v en2 H locs hq hZ => ?_)
      obtain ⟨-, hq1, hq2⟩ := hq
      refine lv_pop hF.1 hF.2.1 d_L_copyFrom_23 rfl ?_
      refine lv_iinc (k := 0) (v := (nI (i + 1))) hF.1 hF.2.1 d_L_copyFrom_24 hl rfl (iinc_p (i)) (by decide) rfl (fun ls hl => ?_)
      have hl : lv_has ls 3 [(2, .int (nI (i + 1))), (0, .ref (ad (k))), (1, .ref (ad (k2)))] := hl
      refine lv_goto (tgt := 6) hF.1 hF.2.1 d_L_copyFrom_27 (by decide) ?_
      refine ih (i + 1) en2 H locs ls (by omega) ?_ (fun r q1 q2 => (hq2 r q1 q2).trans (hfr r q1 q2)) hl hZ
      rw [wd_take_s (by omega)]
      exact hq1
  have hh := h
  obtain ⟨e1, h1, h26, f, e2, h2⟩ := hh
  refine lv_aload_n hF.1 hF.2.1 d_L_copyFrom_0 rfl (lv_at hl 0 rfl) ?_
  refine z_callv hZ (z_run cw_L_19 hF hZ (k) (c_L_clear l hk hka hne hcap h) (by decide) hk e1 rfl rfl hl.1 rfl (Nat.le_of_ble_eq_true rfl) d_L_copyFrom_1) (fun en1 H locs hq hZ => ?_)
  obtain ⟨hq1, hq2⟩ := hq
  refine lv_iconst (v := (nI (0))) hF.1 hF.2.1 d_L_copyFrom_4 (by decide) ?_
  refine lv_istore_n hF.1 hF.2.1 d_L_copyFrom_5 rfl hl (by decide) rfl (fun ls hl => ?_)
  have hl : lv_has ls 3 [(2, .int (nI (0))), (0, .ref (ad (k))), (1, .ref (ad (k2)))] := hl
  exact loop ys.length 0 en1 H locs ls (by omega) (by rw [List.take_zero]; exact hq1) (fun r q1 _ => hq2 r q1) hl hZ
set_option maxHeartbeats 4000000 in
set_option maxRecDepth 100000 in
theorem c_L_beginsWith (l : Launch) {G : zG} {ad : Nat → Nat} {en : Nat → va_E} {N : Nat} {k ka cap : Nat} {xs : List Nat} (hk : k < N) (hka : ka < N) (hne : k ≠ ka) (hcap : cap < 2 ^ 31) (h : pL G ad en k ka cap xs) {k2 ka2 cap2 : Nat} {ys : List Nat} (hk2 : k2 < N) (hka2 : ka2 < N) (hne2 : k2 ≠ ka2) (hcap2 : cap2 < 2 ^ 31) (g : pL G ad en k2 ka2 cap2 ys) : zMi l y_L_beginsWith b_L_beginsWith 3 .boolean 2 G ad en N [.ref (ad (k)), .ref (ad (k2))] (fun v en1 => en1 = en ∧ v = bI (wpre xs ys)) := by
  have hh := h
  obtain ⟨e1, h1, h26, f, e2, h2⟩ := hh
  have gg := g
  obtain ⟨e3, g1, g26, f2, e4, g2⟩ := gg
  refine z_met (by decide) (Nat.le_of_ble_eq_true rfl) ?_
  intro p e s m below meth c ls hF hr hlocks hnam hZ hl
  have hF : CallFix p m c b_L_beginsWith 3 s ([.ref (ad (k)), .ref (ad (k2))] : List Value).toArray zz R_L := hF
  have hl : lv_has ls 3 [(0, .ref (ad (k))), (1, .ref (ad (k2)))] := hl
  have loop : ∀ (n i : Nat) (H : Heap) (locs : List Loc) (ls : Array Slot), (i + n = ys.length) → (∀ j, j < i → wd_cd xs j = wd_cd ys j) → lv_has ls 3 [(2, .int (nI (i))), (0, .ref (ad (k))), (1, .ref (ad (k2)))] → zH G ad en N s H locs → W p l e (zR 2) s m ([.ref (ad (k)), .ref (ad (k2))] : List Value).toArray below meth c H locs 0 0 (MQ below (zQi G ad N (fun v en1 => en1 = en ∧ v = bI (wpre xs ys))) ([.ref (ad (k)), .ref (ad (k2))] : List Value).toArray s 0 0 (zA G)) (F0 m 2 ls []) := by
    intro n
    induction n with
    | zero =>
      intro i H locs ls hin hp hl hZ
      refine lv_iload_n hF.1 hF.2.1 d_L_beginsWith_2 rfl (lv_at hl 0 rfl) ?_
      refine lv_aload_n hF.1 hF.2.1 d_L_beginsWith_3 rfl (lv_at hl 2 rfl) ?_
      refine gf_L_15 hF hZ (k2) hk2 e3 rfl d_L_beginsWith_4 ?_
      refine lv_icmp_ge (tgt := 31) hF.1 hF.2.1 d_L_beginsWith_7 (by decide) (fun _ => ?_) (fun h => absurd (nI_le (by omega) (by omega)) h)
      refine lv_iconst (v := (nI (1))) hF.1 hF.2.1 d_L_beginsWith_31 (by decide) ?_
      exact z_iret hF hr hlocks hZ (by decide) ⟨rfl, by rw [wpre_t (fun j hj => hp j (by omega))]; rfl⟩ d_L_beginsWith_32
    | succ n ih =>
      intro i H locs ls hin hp hl hZ
      refine lv_iload_n hF.1 hF.2.1 d_L_beginsWith_2 rfl (lv_at hl 0 rfl) ?_
      refine lv_aload_n hF.1 hF.2.1 d_L_beginsWith_3 rfl (lv_at hl 2 rfl) ?_
      refine gf_L_15 hF hZ (k2) hk2 e3 rfl d_L_beginsWith_4 ?_
      refine lv_icmp_ge (tgt := 31) hF.1 hF.2.1 d_L_beginsWith_7 (by decide) (fun h => absurd h (nI_ge (show i < ys.length by omega) (by omega))) (fun _ => ?_)
      refine lv_aload_n hF.1 hF.2.1 d_L_beginsWith_10 rfl (lv_at hl 1 rfl) ?_
      refine lv_iload_n hF.1 hF.2.1 d_L_beginsWith_11 rfl (lv_at hl 0 rfl) ?_
      refine z_calli hZ (z_run cw_L_22 hF hZ (k) (c_L_atN l hk hka hne hcap h (j := i) (by omega)) (by decide) hk e1 rfl rfl hl.1 rfl (Nat.le_of_ble_eq_true rfl) d_L_beginsWith_12) (fun v enq H locs hp hZ => ?_)
      obtain ⟨he, hv⟩ := hp
      subst hv
      have hZ := hZ.to he
      refine lv_aload_n hF.1 hF.2.1 d_L_beginsWith_15 rfl (lv_at hl 2 rfl) ?_
      refine lv_iload_n hF.1 hF.2.1 d_L_beginsWith_16 rfl (lv_at hl 0 rfl) ?_
      refine z_calli hZ (z_run cw_L_22 hF hZ (k2) (c_L_atN l hk2 hka2 hne2 hcap2 g (j := i) (by omega)) (by decide) hk2 e3 rfl rfl hl.1 rfl (Nat.le_of_ble_eq_true rfl) d_L_beginsWith_17) (fun v enq H locs hp hZ => ?_)
      obtain ⟨he, hv⟩ := hp
      subst hv
      have hZ := hZ.to he
      refine lv_icmp_eq (tgt := 25) hF.1 hF.2.1 d_L_beginsWith_20 (by decide) (fun q => ?_) (fun q => ?_)
      · have q := (iv_eq (wd_cd_26 h26 i) (wd_cd_26 g26 i)).mp q
        refine lv_iinc (k := 0) (v := (nI (i + 1))) hF.1 hF.2.1 d_L_beginsWith_25 hl rfl (iinc_p (i)) (by decide) rfl (fun ls hl => ?_)
        have hl : lv_has ls 3 [(2, .int (nI (i + 1))), (0, .ref (ad (k))), (1, .ref (ad (k2)))] := hl
        refine lv_goto (tgt := 2) hF.1 hF.2.1 d_L_beginsWith_28 (by decide) ?_
        refine ih (i + 1) H locs ls (by omega) (fun j hj => ?_) hl hZ
        by_cases z : j = i
        · rw [z]; exact q
        · exact hp j (by omega)
      · have q : ¬ wd_cd xs i = wd_cd ys i := fun z => q (by rw [z])
        refine lv_iconst (v := (nI (0))) hF.1 hF.2.1 d_L_beginsWith_23 (by decide) ?_
        exact z_iret hF hr hlocks hZ (by decide) ⟨rfl, by rw [wpre_f (i := i) (by omega) q]; rfl⟩ d_L_beginsWith_24
  refine lv_iconst (v := (nI (0))) hF.1 hF.2.1 d_L_beginsWith_0 (by decide) ?_
  refine lv_istore_n hF.1 hF.2.1 d_L_beginsWith_1 rfl hl (by decide) rfl (fun ls hl => ?_)
  have hl : lv_has ls 3 [(2, .int (nI (0))), (0, .ref (ad (k))), (1, .ref (ad (k2)))] := hl
  exact loop ys.length 0 _ _ ls (by omega) (fun j hj => absurd hj (Nat.not_lt_zero _)) hl hZ
set_option maxHeartbeats 4000000 in
set_option maxRecDepth 100000 in
theorem c_L_isSameAs (l : Launch) {G : zG} {ad : Nat → Nat} {en : Nat → va_E} {N : Nat} {k ka cap : Nat} {xs : List Nat} (hk : k < N) (hka : ka < N) (hne : k ≠ ka) (hcap : cap < 2 ^ 31) (h : pL G ad en k ka cap xs) {k2 ka2 cap2 : Nat} {ys : List Nat} (hk2 : k2 < N) (hka2 : ka2 < N) (hne2 : k2 ≠ ka2) (hcap2 : cap2 < 2 ^ 31) (g : pL G ad en k2 ka2 cap2 ys) : zMi l y_L_isSameAs b_L_isSameAs 2 .boolean 3 G ad en N [.ref (ad (k)), .ref (ad (k2))] (fun v en1 => en1 = en ∧ v = bI (decide (xs = ys))) := by
  have hh := h
  obtain ⟨e1, h1, h26, f, e2, h2⟩ := hh
  have gg := g
  obtain ⟨e3, g1, g26, f2, e4, g2⟩ := gg
  refine z_met (by decide) (Nat.le_of_ble_eq_true rfl) ?_
  intro p e s m below meth c ls hF hr hlocks hnam hZ hl
  have hF : CallFix p m c b_L_isSameAs 2 s ([.ref (ad (k)), .ref (ad (k2))] : List Value).toArray zz R_L := hF
  have hl : lv_has ls 2 [(0, .ref (ad (k))), (1, .ref (ad (k2)))] := hl
  refine lv_aload_n hF.1 hF.2.1 d_L_isSameAs_0 rfl (lv_at hl 0 rfl) ?_
  refine gf_L_15 hF hZ (k) hk e1 rfl d_L_isSameAs_1 ?_
  refine lv_aload_n hF.1 hF.2.1 d_L_isSameAs_4 rfl (lv_at hl 1 rfl) ?_
  refine gf_L_15 hF hZ (k2) hk2 e3 rfl d_L_isSameAs_5 ?_
  refine lv_icmp_ne (tgt := 23) hF.1 hF.2.1 d_L_isSameAs_8 (by decide) (fun q => ?_) (fun q => ?_)
  · have q : ¬ xs.length = ys.length := fun z => q (by rw [z])
    refine lv_iconst (v := (nI (0))) hF.1 hF.2.1 d_L_isSameAs_23 (by decide) ?_
    exact z_iret hF hr hlocks hZ (by decide) ⟨rfl, by rw [decide_eq_false (fun z => q (by rw [z]))]; rfl⟩ d_L_isSameAs_24
  · have q := (nI_eq (by omega) (by omega)).mp q
    refine lv_aload_n hF.1 hF.2.1 d_L_isSameAs_11 rfl (lv_at hl 0 rfl) ?_
    refine lv_aload_n hF.1 hF.2.1 d_L_isSameAs_12 rfl (lv_at hl 1 rfl) ?_
    refine z_calli hZ (z_run cw_L_30 hF hZ (k) (c_L_beginsWith l hk hka hne hcap h hk2 hka2 hne2 hcap2 g) (by decide) hk e1 rfl rfl hl.1 rfl (Nat.le_of_ble_eq_true rfl) d_L_isSameAs_13) (fun v enq H locs hp hZ => ?_)
    obtain ⟨he, hv⟩ := hp
    subst hv
    have hZ := hZ.to he
    refine lv_if_eq (tgt := 23) hF.1 hF.2.1 d_L_isSameAs_16 (by decide) (fun z => ?_) (fun z => ?_)
    · have z := bI_0.mp z
      refine lv_iconst (v := (nI (0))) hF.1 hF.2.1 d_L_isSameAs_23 (by decide) ?_
      exact z_iret hF hr hlocks hZ (by decide) ⟨rfl, by rw [decide_eq_false (fun y => by rw [(wsame_iff q).mpr y] at z; cases z)]; rfl⟩ d_L_isSameAs_24
    · have z : wpre xs ys = true := by cases y : wpre xs ys with
        | false => exact absurd (bI_0.mpr y) z
        | true => rfl
      refine lv_iconst (v := (nI (1))) hF.1 hF.2.1 d_L_isSameAs_19 (by decide) ?_
      refine lv_goto (tgt := 24) hF.1 hF.2.1 d_L_isSameAs_20 (by decide) ?_
      exact z_iret hF hr hlocks hZ (by decide) ⟨rfl, by rw [decide_eq_true ((wsame_iff q).mp z)]; rfl⟩ d_L_isSameAs_24
set_option maxHeartbeats 4000000 in
set_option maxRecDepth 100000 in
theorem c_L_isBefore (l : Launch) {G : zG} {ad : Nat → Nat} {en : Nat → va_E} {N : Nat} {k ka cap : Nat} {xs : List Nat} (hk : k < N) (hka : ka < N) (hne : k ≠ ka) (hcap : cap < 2 ^ 31) (h : pL G ad en k ka cap xs) {k2 ka2 cap2 : Nat} {ys : List Nat} (hk2 : k2 < N) (hka2 : ka2 < N) (hne2 : k2 ≠ ka2) (hcap2 : cap2 < 2 ^ 31) (g : pL G ad en k2 ka2 cap2 ys) : zMi l y_L_isBefore b_L_isBefore 3 .boolean 2 G ad en N [.ref (ad (k)), .ref (ad (k2))] (fun v en1 => en1 = en ∧ v = bI (wd_lt xs ys)) := by
  have hh := h
  obtain ⟨e1, h1, h26, f, e2, h2⟩ := hh
  have gg := g
  obtain ⟨e3, g1, g26, f2, e4, g2⟩ := gg
  refine z_met (by decide) (Nat.le_of_ble_eq_true rfl) ?_
  intro p e s m below meth c ls hF hr hlocks hnam hZ hl
  have hF : CallFix p m c b_L_isBefore 3 s ([.ref (ad (k)), .ref (ad (k2))] : List Value).toArray zz R_L := hF
  have hl : lv_has ls 3 [(0, .ref (ad (k))), (1, .ref (ad (k2)))] := hl
  have loop : ∀ (n i : Nat) (H : Heap) (locs : List Loc) (ls : Array Slot), (i + n = ys.length) → (wd_lt xs ys = wd_lt (xs.drop i) (ys.drop i)) → lv_has ls 3 [(2, .int (nI (i))), (0, .ref (ad (k))), (1, .ref (ad (k2)))] → zH G ad en N s H locs → W p l e (zR 2) s m ([.ref (ad (k)), .ref (ad (k2))] : List Value).toArray below meth c H locs 0 0 (MQ below (zQi G ad N (fun v en1 => en1 = en ∧ v = bI (wd_lt xs ys))) ([.ref (ad (k)), .ref (ad (k2))] : List Value).toArray s 0 0 (zA G)) (F0 m 2 ls []) := by
    intro n
    induction n with
    | zero =>
      intro i H locs ls hin hp hl hZ
      refine lv_iload_n hF.1 hF.2.1 d_L_isBefore_2 rfl (lv_at hl 0 rfl) ?_
      refine lv_aload_n hF.1 hF.2.1 d_L_isBefore_3 rfl (lv_at hl 2 rfl) ?_
      refine gf_L_15 hF hZ (k2) hk2 e3 rfl d_L_isBefore_4 ?_
      refine lv_icmp_ge (tgt := 48) hF.1 hF.2.1 d_L_isBefore_7 (by decide) (fun _ => ?_) (fun h => absurd (nI_le (by omega) (by omega)) h)
      refine lv_iconst (v := (nI (0))) hF.1 hF.2.1 d_L_isBefore_48 (by decide) ?_
      exact z_iret hF hr hlocks hZ (by decide) ⟨rfl, by rw [hp, List.drop_eq_nil_of_le (show ys.length ≤ i by omega), wd_lt_nilR]; rfl⟩ d_L_isBefore_49
    | succ n ih =>
      intro i H locs ls hin hp hl hZ
      rw [wd_lt_s] at hp
      refine lv_iload_n hF.1 hF.2.1 d_L_isBefore_2 rfl (lv_at hl 0 rfl) ?_
      refine lv_aload_n hF.1 hF.2.1 d_L_isBefore_3 rfl (lv_at hl 2 rfl) ?_
      refine gf_L_15 hF hZ (k2) hk2 e3 rfl d_L_isBefore_4 ?_
      refine lv_icmp_ge (tgt := 48) hF.1 hF.2.1 d_L_isBefore_7 (by decide) (fun h => absurd h (nI_ge (show i < ys.length by omega) (by omega))) (fun _ => ?_)
      refine lv_aload_n hF.1 hF.2.1 d_L_isBefore_10 rfl (lv_at hl 1 rfl) ?_
      refine lv_iload_n hF.1 hF.2.1 d_L_isBefore_11 rfl (lv_at hl 0 rfl) ?_
      refine z_calli hZ (z_run cw_L_22 hF hZ (k) (c_L_atN l hk hka hne hcap h (j := i) (by omega)) (by decide) hk e1 rfl rfl hl.1 rfl (Nat.le_of_ble_eq_true rfl) d_L_isBefore_12) (fun v enq H locs hp hZ => ?_)
      obtain ⟨he, hv⟩ := hp
      subst hv
      have hZ := hZ.to he
      refine lv_aload_n hF.1 hF.2.1 d_L_isBefore_15 rfl (lv_at hl 2 rfl) ?_
      refine lv_iload_n hF.1 hF.2.1 d_L_isBefore_16 rfl (lv_at hl 0 rfl) ?_
      refine z_calli hZ (z_run cw_L_22 hF hZ (k2) (c_L_atN l hk2 hka2 hne2 hcap2 g (j := i) (by omega)) (by decide) hk2 e3 rfl rfl hl.1 rfl (Nat.le_of_ble_eq_true rfl) d_L_isBefore_17) (fun v enq H locs hp hZ => ?_)
      obtain ⟨he, hv⟩ := hp
      subst hv
      have hZ := hZ.to he
      refine lv_icmp_eq (tgt := 42) hF.1 hF.2.1 d_L_isBefore_20 (by decide) (fun q => ?_) (fun q => ?_)
      · have q := (iv_eq (wd_cd_26 h26 i) (wd_cd_26 g26 i)).mp q
        rw [if_pos q] at hp
        refine lv_iinc (k := 0) (v := (nI (i + 1))) hF.1 hF.2.1 d_L_isBefore_42 hl rfl (iinc_p (i)) (by decide) rfl (fun ls hl => ?_)
        have hl : lv_has ls 3 [(2, .int (nI (i + 1))), (0, .ref (ad (k))), (1, .ref (ad (k2)))] := hl
        refine lv_goto (tgt := 2) hF.1 hF.2.1 d_L_isBefore_45 (by decide) ?_
        exact ih (i + 1) H locs ls (by omega) hp hl hZ
      · have q : ¬ wd_cd xs i = wd_cd ys i := fun z => q (by rw [z])
        rw [if_neg q] at hp
        refine lv_aload_n hF.1 hF.2.1 d_L_isBefore_23 rfl (lv_at hl 1 rfl) ?_
        refine lv_iload_n hF.1 hF.2.1 d_L_isBefore_24 rfl (lv_at hl 0 rfl) ?_
        refine z_calli hZ (z_run cw_L_22 hF hZ (k) (c_L_atN l hk hka hne hcap h (j := i) (by omega)) (by decide) hk e1 rfl rfl hl.1 rfl (Nat.le_of_ble_eq_true rfl) d_L_isBefore_25) (fun v enq H locs hp hZ => ?_)
        obtain ⟨he, hv⟩ := hp
        subst hv
        have hZ := hZ.to he
        refine lv_aload_n hF.1 hF.2.1 d_L_isBefore_28 rfl (lv_at hl 2 rfl) ?_
        refine lv_iload_n hF.1 hF.2.1 d_L_isBefore_29 rfl (lv_at hl 0 rfl) ?_
        refine z_calli hZ (z_run cw_L_22 hF hZ (k2) (c_L_atN l hk2 hka2 hne2 hcap2 g (j := i) (by omega)) (by decide) hk2 e3 rfl rfl hl.1 rfl (Nat.le_of_ble_eq_true rfl) d_L_isBefore_30) (fun v enq H locs hp hZ => ?_)
        obtain ⟨he, hv⟩ := hp
        subst hv
        have hZ := hZ.to he
        refine lv_icmp_ge (tgt := 40) hF.1 hF.2.1 d_L_isBefore_33 (by decide) (fun z => ?_) (fun z => ?_)
        · have z : ¬ wd_cd xs i < wd_cd ys i := fun y => by
            have y := (iv_lt (wd_cd_26 h26 i) (wd_cd_26 g26 i)).mpr y
            rw [Int32.lt_iff_toInt_lt] at y; rw [Int32.le_iff_toInt_le] at z; omega
          refine lv_iconst (v := (nI (0))) hF.1 hF.2.1 d_L_isBefore_40 (by decide) ?_
          exact z_iret hF hr hlocks hZ (by decide) ⟨rfl, by rw [hp, decide_eq_false z]; rfl⟩ d_L_isBefore_41
        · have z : wd_cd xs i < wd_cd ys i := (iv_lt (wd_cd_26 h26 i) (wd_cd_26 g26 i)).mp (by
            rw [Int32.lt_iff_toInt_lt]; rw [Int32.le_iff_toInt_le] at z; omega)
          refine lv_iconst (v := (nI (1))) hF.1 hF.2.1 d_L_isBefore_36 (by decide) ?_
          refine lv_goto (tgt := 41) hF.1 hF.2.1 d_L_isBefore_37 (by decide) ?_
          exact z_iret hF hr hlocks hZ (by decide) ⟨rfl, by rw [hp, decide_eq_true z]; rfl⟩ d_L_isBefore_41
  refine lv_iconst (v := (nI (0))) hF.1 hF.2.1 d_L_isBefore_0 (by decide) ?_
  refine lv_istore_n hF.1 hF.2.1 d_L_isBefore_1 rfl hl (by decide) rfl (fun ls hl => ?_)
  have hl : lv_has ls 3 [(2, .int (nI (0))), (0, .ref (ad (k))), (1, .ref (ad (k2)))] := hl
  exact loop ys.length 0 _ _ ls (by omega) (by rw [List.drop_zero, List.drop_zero]) hl hZ
