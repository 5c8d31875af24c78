set_option maxHeartbeats 4000000 in
set_option maxRecDepth 100000 in
theorem c_M_key (l : Launch) {G : zG} {ad : Nat → Nat} {en : Nat → va_E} {N : Nat} {T : List Nat} {mw : List wd_W} (hN : 111 ≤ N) (h : pM G ad en T mw) {x : Nat} (hx : x < 26) (hlen : T.length < 10) : zMi l y_M_key b_M_key 2 .boolean 1 G ad en N [.ref (ad (104)), .int (nI (x))] (fun v en1 => v = 1 ∧ pM G ad en1 (T ++ [x]) mw ∧ ∀ r, r < 104 → en1 r = en r) := by
  have hh := h
  obtain ⟨p1, p2, p26, p3, ⟨ft, p4, p5⟩, ⟨fl, fs, fc, p6, p7, p8, p9⟩, ⟨fr, p10⟩, fj, p11⟩ := hh
  refine z_met (by decide) (Nat.le_of_ble_eq_true rfl) ?_
  intro p e s m below meth c ls hF hr hlocks hnam hZ hl
  have hF : CallFix p m c b_M_key 2 s ([.ref (ad (104)), .int (nI (x))] : List Value).toArray zz R_M := hF
  have hl : lv_has ls 2 [(0, .ref (ad (104))), (1, .int (nI (x)))] := hl
  refine lv_iload_n hF.1 hF.2.1 d_M_key_0 rfl (lv_at hl 1 rfl) ?_
  refine lv_if_lt (tgt := 19) hF.1 hF.2.1 d_M_key_1 (by decide) (fun h => absurd h (nI_pos (by omega))) (fun _ => ?_)
  refine lv_iload_n hF.1 hF.2.1 d_M_key_4 rfl (lv_at hl 1 rfl) ?_
  refine lv_bipush (v := (nI (25))) hF.1 hF.2.1 d_M_key_5 (by decide) ?_
  refine lv_icmp_gt (tgt := 19) hF.1 hF.2.1 d_M_key_7 (by decide) (fun h => absurd h (nI_nlt (show x ≤ 25 by omega) (by omega))) (fun _ => ?_)
  refine lv_aload_n hF.1 hF.2.1 d_M_key_10 rfl (lv_at hl 0 rfl) ?_
  refine gf_M_29 hF hZ (104) (by omega) p1 rfl d_M_key_11 ?_
  refine lv_bipush (v := (nI (10))) hF.1 hF.2.1 d_M_key_14 (by decide) ?_
  refine lv_icmp_ne (tgt := 21) hF.1 hF.2.1 d_M_key_16 (by decide) (fun _ => ?_) (fun h => absurd h (fun z => by have := (nI_eq (by omega) (by omega)).mp z; omega))
  refine lv_aload_n hF.1 hF.2.1 d_M_key_21 rfl (lv_at hl 0 rfl) ?_
  refine gf_M_7 hF hZ (104) (by omega) p1 rfl d_M_key_22 ?_
  refine lv_aload_n hF.1 hF.2.1 d_M_key_25 rfl (lv_at hl 0 rfl) ?_
  refine gf_M_29 hF hZ (104) (by omega) p1 rfl d_M_key_26 ?_
  refine lv_iload_n hF.1 hF.2.1 d_M_key_29 rfl (lv_at hl 1 rfl) ?_
  refine z_iast hF hZ (105) (by omega) p4 (T.length) (by omega) (by omega) d_M_key_30 (fun H locs hZ => ?_)
  obtain ⟨ze1, hn2⟩ : ∃ z, z = va_up en (105) (.inl (zI G, 10, .inl (upd (ft) (T.length) (nI (x))))) := ⟨_, rfl⟩
  have hZ : zH G ad ze1 N s H locs := hZ.to hn2.symm
  have ff3 : ze1 (104) = .inr (kM, [.ref (ad (105)), .int (nI (T.length)), .ref (ad (106)), .ref (ad (107)), .ref (ad (108)), .int (nI (mw.length)), .ref (ad (109)), .ref (ad (110))]) := by rw [hn2, va_up_ne _ _ (by omega)]; exact p1
  have ff4 : ze1 (106) = .inl (zI G, 192, .inl (fl)) := by rw [hn2, va_up_ne _ _ (by omega)]; exact p6
  have ff5 : ze1 (107) = .inl (zI G, 24, .inl (fs)) := by rw [hn2, va_up_ne _ _ (by omega)]; exact p7
  have ff6 : ze1 (108) = .inl (zI G, 24, .inl (fc)) := by rw [hn2, va_up_ne _ _ (by omega)]; exact p8
  have ff7 : ze1 (109) = .inl (zI G, 99, .inl (fr)) := by rw [hn2, va_up_ne _ _ (by omega)]; exact p10
  have ff8 : ze1 (110) = .inl (zJ G, 252, .inr (.inl (fj))) := by rw [hn2, va_up_ne _ _ (by omega)]; exact p11
  have ff9 : ze1 (105) = .inl (zI G, 10, .inl (upd (ft) (T.length) (nI (x)))) := by rw [hn2]; exact va_up_self _ _ _
  refine lv_aload_n hF.1 hF.2.1 d_M_key_31 rfl (lv_at hl 0 rfl) ?_
  refine lv_dup hF.1 hF.2.1 d_M_key_32 rfl ?_
  refine gf_M_29 hF hZ (104) (by omega) ff3 rfl d_M_key_33 ?_
  refine lv_iconst (v := (nI (1))) hF.1 hF.2.1 d_M_key_36 (by decide) ?_
  refine lv_iadd hF.1 hF.2.1 d_M_key_37 ?_
  refine z_top (nI_add (T.length) (1)) ?_
  refine pf_M_29 hF hZ (104) (by omega) ff3 (Nat.le_of_ble_eq_true rfl) d_M_key_38 (fun H locs hZ => ?_)
  obtain ⟨ze10, hn11⟩ : ∃ z, z = va_up ze1 (104) (.inr (kM, [.ref (ad (105)), .int (nI (T.length + 1)), .ref (ad (106)), .ref (ad (107)), .ref (ad (108)), .int (nI (mw.length)), .ref (ad (109)), .ref (ad (110))])) := ⟨_, rfl⟩
  have hZ : zH G ad ze10 N s H locs := hZ.to hn11.symm
  have ff12 : ze10 (106) = .inl (zI G, 192, .inl (fl)) := by rw [hn11, va_up_ne _ _ (by omega)]; exact ff4
  have ff13 : ze10 (107) = .inl (zI G, 24, .inl (fs)) := by rw [hn11, va_up_ne _ _ (by omega)]; exact ff5
  have ff14 : ze10 (108) = .inl (zI G, 24, .inl (fc)) := by rw [hn11, va_up_ne _ _ (by omega)]; exact ff6
  have ff15 : ze10 (109) = .inl (zI G, 99, .inl (fr)) := by rw [hn11, va_up_ne _ _ (by omega)]; exact ff7
  have ff16 : ze10 (110) = .inl (zJ G, 252, .inr (.inl (fj))) := by rw [hn11, va_up_ne _ _ (by omega)]; exact ff8
  have ff17 : ze10 (105) = .inl (zI G, 10, .inl (upd (ft) (T.length) (nI (x)))) := by rw [hn11, va_up_ne _ _ (by omega)]; exact ff9
  have ff18 : ze10 (104) = .inr (kM, [.ref (ad (105)), .int (nI (T.length + 1)), .ref (ad (106)), .ref (ad (107)), .ref (ad (108)), .int (nI (mw.length)), .ref (ad (109)), .ref (ad (110))]) := by rw [hn11]; exact va_up_self _ _ _
  refine lv_iconst (v := (nI (1))) hF.1 hF.2.1 d_M_key_41 (by decide) ?_
  refine z_iret hF hr hlocks hZ (by decide) ⟨by decide, ⟨by rw [List.length_append]; exact ff18, by rw [List.length_append]; exact hlen, w26_app p26 hx, p3, ⟨_, ff17, fun i hi => ?_⟩, ⟨fl, fs, fc, ff12, ff13, ff14, p9⟩, ⟨fr, ff15⟩, fj, ff16⟩, fun r hr => by subst ze10; rw [va_up_ne _ _ (by omega)]; subst ze1; rw [va_up_ne _ _ (by omega)]⟩ d_M_key_42
  by_cases q : i = T.length
  · subst q
    rw [pk_us, getD_app_e]
  · rw [List.length_append, List.length_singleton] at hi
    rw [pk_un q, getD_app_l (by omega)]
    exact p5 i (by omega)
set_option maxHeartbeats 4000000 in
set_option maxRecDepth 100000 in
theorem c_M_keyNo (l : Launch) {G : zG} {ad : Nat → Nat} {en : Nat → va_E} {N : Nat} {T : List Nat} {mw : List wd_W} (hN : 111 ≤ N) (h : pM G ad en T mw) {x : Int32} (hno : x < 0 ∨ nI 26 ≤ x ∨ 10 ≤ T.length) : zMi l y_M_key b_M_key 2 .boolean 1 G ad en N [.ref (ad (104)), .int (x)] (fun v en1 => v = 0 ∧ en1 = en) := by
  have hh := h
  obtain ⟨p1, p2, p26, p3, ⟨ft, p4, p5⟩, ⟨fl, fs, fc, p6, p7, p8, p9⟩, ⟨fr, p10⟩, fj, p11⟩ := hh
  refine z_met (by decide) (Nat.le_of_ble_eq_true rfl) ?_
  intro p e s m below meth c ls hF hr hlocks hnam hZ hl
  have hF : CallFix p m c b_M_key 2 s ([.ref (ad (104)), .int (x)] : List Value).toArray zz R_M := hF
  have hl : lv_has ls 2 [(0, .ref (ad (104))), (1, .int (x))] := hl
  refine lv_iload_n hF.1 hF.2.1 d_M_key_0 rfl (lv_at hl 1 rfl) ?_
  refine lv_if_lt (tgt := 19) hF.1 hF.2.1 d_M_key_1 (by decide) (fun q1 => ?_) (fun q1 => ?_)
  · refine lv_iconst (v := (nI (0))) hF.1 hF.2.1 d_M_key_19 (by decide) ?_
    exact z_iret hF hr hlocks hZ (by decide) ⟨by decide, rfl⟩ d_M_key_20
  · refine lv_iload_n hF.1 hF.2.1 d_M_key_4 rfl (lv_at hl 1 rfl) ?_
    refine lv_bipush (v := (nI (25))) hF.1 hF.2.1 d_M_key_5 (by decide) ?_
    refine lv_icmp_gt (tgt := 19) hF.1 hF.2.1 d_M_key_7 (by decide) (fun q2 => ?_) (fun q2 => ?_)
    · refine lv_iconst (v := (nI (0))) hF.1 hF.2.1 d_M_key_19 (by decide) ?_
      exact z_iret hF hr hlocks hZ (by decide) ⟨by decide, rfl⟩ d_M_key_20
    · refine lv_aload_n hF.1 hF.2.1 d_M_key_10 rfl (lv_at hl 0 rfl) ?_
      refine gf_M_29 hF hZ (104) (by omega) p1 rfl d_M_key_11 ?_
      refine lv_bipush (v := (nI (10))) hF.1 hF.2.1 d_M_key_14 (by decide) ?_
      refine lv_icmp_ne (tgt := 21) hF.1 hF.2.1 d_M_key_16 (by decide) (fun h => absurd (show nI T.length = nI 10 by
          rcases hno with z | z | z
          · exact absurd z q1
          · exfalso
            rw [Int32.lt_iff_toInt_lt] at q2
            rw [Int32.le_iff_toInt_le] at z
            have a1 : (nI 25).toInt = 25 := by decide
            have a2 : (nI 26).toInt = 26 := by decide
            omega
          · rw [show T.length = 10 by omega]) h) (fun _ => ?_)
      refine lv_iconst (v := (nI (0))) hF.1 hF.2.1 d_M_key_19 (by decide) ?_
      exact z_iret hF hr hlocks hZ (by decide) ⟨by decide, rfl⟩ d_M_key_20
set_option maxHeartbeats 4000000 in
set_option maxRecDepth 100000 in
theorem c_M_back (l : Launch) {G : zG} {ad : Nat → Nat} {en : Nat → va_E} {N : Nat} {T : List Nat} {mw : List wd_W} (hN : 111 ≤ N) (h : pM G ad en T mw) (hlen : 0 < T.length) : zMi l y_M_back b_M_back 1 .boolean 1 G ad en N [.ref (ad (104))] (fun v en1 => v = 1 ∧ pM G ad en1 (T.take (T.length - 1)) mw ∧ ∀ r, r < 104 → en1 r = en r) := by
  have hh := h
  obtain ⟨p1, p2, p26, p3, ⟨ft, p4, p5⟩, ⟨fl, fs, fc, p6, p7, p8, p9⟩, ⟨fr, p10⟩, fj, p11⟩ := hh
  have hlt : (T.take (T.length - 1)).length = T.length - 1 := by rw [List.length_take]; omega
  refine z_met (by decide) (Nat.le_of_ble_eq_true rfl) ?_
  intro p e s m below meth c ls hF hr hlocks hnam hZ hl
  have hF : CallFix p m c b_M_back 1 s ([.ref (ad (104))] : List Value).toArray zz R_M := hF
  have hl : lv_has ls 1 [(0, .ref (ad (104)))] := hl
  refine lv_aload_n hF.1 hF.2.1 d_M_back_0 rfl (lv_at hl 0 rfl) ?_
  refine gf_M_29 hF hZ (104) (by omega) p1 rfl d_M_back_1 ?_
  refine lv_if_ne (tgt := 9) hF.1 hF.2.1 d_M_back_4 (by decide) (fun _ => ?_) (fun h => absurd h (nI_ne0 hlen (by omega)))
  refine lv_aload_n hF.1 hF.2.1 d_M_back_9 rfl (lv_at hl 0 rfl) ?_
  refine lv_dup hF.1 hF.2.1 d_M_back_10 rfl ?_
  refine gf_M_29 hF hZ (104) (by omega) p1 rfl d_M_back_11 ?_
  refine lv_iconst (v := (nI (1))) hF.1 hF.2.1 d_M_back_14 (by decide) ?_
  refine lv_isub hF.1 hF.2.1 d_M_back_15 ?_
  refine z_top (pk_sub (show 1 ≤ T.length by omega)) ?_
  refine pf_M_29 hF hZ (104) (by omega) p1 (Nat.le_of_ble_eq_true rfl) d_M_back_16 (fun H locs hZ => ?_)
  obtain ⟨ze1, hn2⟩ : ∃ z, z = va_up en (104) (.inr (kM, [.ref (ad (105)), .int (nI (T.length - (1))), .ref (ad (106)), .ref (ad (107)), .ref (ad (108)), .int (nI (mw.length)), .ref (ad (109)), .ref (ad (110))])) := ⟨_, rfl⟩
  have hZ : zH G ad ze1 N s H locs := hZ.to hn2.symm
  have ff3 : ze1 (105) = .inl (zI G, 10, .inl (ft)) := by rw [hn2, va_up_ne _ _ (by omega)]; exact p4
  have ff4 : ze1 (106) = .inl (zI G, 192, .inl (fl)) := by rw [hn2, va_up_ne _ _ (by omega)]; exact p6
  have ff5 : ze1 (107) = .inl (zI G, 24, .inl (fs)) := by rw [hn2, va_up_ne _ _ (by omega)]; exact p7
  have ff6 : ze1 (108) = .inl (zI G, 24, .inl (fc)) := by rw [hn2, va_up_ne _ _ (by omega)]; exact p8
  have ff7 : ze1 (109) = .inl (zI G, 99, .inl (fr)) := by rw [hn2, va_up_ne _ _ (by omega)]; exact p10
  have ff8 : ze1 (110) = .inl (zJ G, 252, .inr (.inl (fj))) := by rw [hn2, va_up_ne _ _ (by omega)]; exact p11
  have ff9 : ze1 (104) = .inr (kM, [.ref (ad (105)), .int (nI (T.length - (1))), .ref (ad (106)), .ref (ad (107)), .ref (ad (108)), .int (nI (mw.length)), .ref (ad (109)), .ref (ad (110))]) := by rw [hn2]; exact va_up_self _ _ _
  refine lv_iconst (v := (nI (1))) hF.1 hF.2.1 d_M_back_19 (by decide) ?_
  refine z_iret hF hr hlocks hZ (by decide) ⟨by decide, ⟨by rw [hlt]; exact ff9, by rw [hlt]; omega, w26_take _ p26, p3, ⟨ft, ff3, fun i hi => ?_⟩, ⟨fl, fs, fc, ff4, ff5, ff6, p9⟩, ⟨fr, ff7⟩, fj, ff8⟩, fun r hr => by subst ze1; rw [va_up_ne _ _ (by omega)]⟩ d_M_back_20
  rw [hlt] at hi
  rw [getD_take (by omega)]
  exact p5 i (by omega)
set_option maxHeartbeats 4000000 in
set_option maxRecDepth 100000 in
theorem c_M_backNo (l : Launch) {G : zG} {ad : Nat → Nat} {en : Nat → va_E} {N : Nat} {T : List Nat} {mw : List wd_W} (hN : 111 ≤ N) (h : pM G ad en T mw) (hlen : T.length = 0) : zMi l y_M_back b_M_back 1 .boolean 1 G ad en N [.ref (ad (104))] (fun v en1 => v = 0 ∧ en1 = en) := by
  have hh := h
  obtain ⟨p1, p2, p26, p3, ⟨ft, p4, p5⟩, ⟨fl, fs, fc, p6, p7, p8, p9⟩, ⟨fr, p10⟩, fj, p11⟩ := hh
  refine z_met (by decide) (Nat.le_of_ble_eq_true rfl) ?_
  intro p e s m below meth c ls hF hr hlocks hnam hZ hl
  have hF : CallFix p m c b_M_back 1 s ([.ref (ad (104))] : List Value).toArray zz R_M := hF
  have hl : lv_has ls 1 [(0, .ref (ad (104)))] := hl
  refine lv_aload_n hF.1 hF.2.1 d_M_back_0 rfl (lv_at hl 0 rfl) ?_
  refine gf_M_29 hF hZ (104) (by omega) p1 rfl d_M_back_1 ?_
  refine lv_if_ne (tgt := 9) hF.1 hF.2.1 d_M_back_4 (by decide) (fun h => absurd (show nI T.length = 0 by rw [hlen]; rfl) h) (fun _ => ?_)
  refine lv_iconst (v := (nI (0))) hF.1 hF.2.1 d_M_back_7 (by decide) ?_
  exact z_iret hF hr hlocks hZ (by decide) ⟨by decide, rfl⟩ d_M_back_8
set_option maxHeartbeats 4000000 in
set_option maxRecDepth 100000 in
theorem c_M_wipe (l : Launch) {G : zG} {ad : Nat → Nat} {en : Nat → va_E} {N : Nat} {T : List Nat} {mw : List wd_W} (hN : 111 ≤ N) (h : pM G ad en T mw) : zMv l y_M_wipe b_M_wipe 1 1 G ad en N [.ref (ad (104))] (fun en1 => pM G ad en1 [] mw ∧ ∀ r, r < 104 → en1 r = en r) := by
  have hh := h
  obtain ⟨p1, p2, p26, p3, ⟨ft, p4, p5⟩, ⟨fl, fs, fc, p6, p7, p8, p9⟩, ⟨fr, p10⟩, fj, p11⟩ := hh
  refine z_met (by decide) (Nat.le_of_ble_eq_true rfl) ?_
  intro p e s m below meth c ls hF hr hlocks hnam hZ hl
  have hF : CallFix p m c b_M_wipe 1 s ([.ref (ad (104))] : List Value).toArray zz R_M := hF
  have hl : lv_has ls 1 [(0, .ref (ad (104)))] := hl
  refine lv_aload_n hF.1 hF.2.1 d_M_wipe_0 rfl (lv_at hl 0 rfl) ?_
  refine lv_iconst (v := (nI (0))) hF.1 hF.2.1 d_M_wipe_1 (by decide) ?_
  refine pf_M_29 hF hZ (104) (by omega) p1 (Nat.le_of_ble_eq_true rfl) d_M_wipe_2 (fun H locs hZ => ?_)
  obtain ⟨ze1, hn2⟩ : ∃ z, z = va_up en (104) (.inr (kM, [.ref (ad (105)), .int (nI (0)), .ref (ad (106)), .ref (ad (107)), .ref (ad (108)), .int (nI (mw.length)), .ref (ad (109)), .ref (ad (110))])) := ⟨_, rfl⟩
  have hZ : zH G ad ze1 N s H locs := hZ.to hn2.symm
  have ff3 : ze1 (105) = .inl (zI G, 10, .inl (ft)) := by rw [hn2, va_up_ne _ _ (by omega)]; exact p4
  have ff4 : ze1 (106) = .inl (zI G, 192, .inl (fl)) := by rw [hn2, va_up_ne _ _ (by omega)]; exact p6
  have ff5 : ze1 (107) = .inl (zI G, 24, .inl (fs)) := by rw [hn2, va_up_ne _ _ (by omega)]; exact p7
  have ff6 : ze1 (108) = .inl (zI G, 24, .inl (fc)) := by rw [hn2, va_up_ne _ _ (by omega)]; exact p8
  have ff7 : ze1 (109) = .inl (zI G, 99, .inl (fr)) := by rw [hn2, va_up_ne _ _ (by omega)]; exact p10
  have ff8 : ze1 (110) = .inl (zJ G, 252, .inr (.inl (fj))) := by rw [hn2, va_up_ne _ _ (by omega)]; exact p11
  have ff9 : ze1 (104) = .inr (kM, [.ref (ad (105)), .int (nI (0)), .ref (ad (106)), .ref (ad (107)), .ref (ad (108)), .int (nI (mw.length)), .ref (ad (109)), .ref (ad (110))]) := by rw [hn2]; exact va_up_self _ _ _
  exact z_vret hF hr hlocks hZ ⟨⟨ff9, Nat.zero_le _, w26_nil, p3, ⟨ft, ff3, fun i hi => absurd hi (Nat.not_lt_zero _)⟩, ⟨fl, fs, fc, ff4, ff5, ff6, p9⟩, ⟨fr, ff7⟩, fj, ff8⟩, fun r hr => by subst ze1; rw [va_up_ne _ _ (by omega)]⟩ d_M_wipe_5
set_option maxHeartbeats 4000000 in
set_option maxRecDepth 100000 in
theorem c_M_length (l : Launch) {G : zG} {ad : Nat → Nat} {en : Nat → va_E} {N : Nat} {T : List Nat} {mw : List wd_W} (hN : 111 ≤ N) (h : pM G ad en T mw) : zMi l y_M_length b_M_length 1 .int 1 G ad en N [.ref (ad (104))] (fun v en1 => en1 = en ∧ v = nI T.length) := by
  have hh := h
  obtain ⟨p1, p2, p26, p3, ⟨ft, p4, p5⟩, ⟨fl, fs, fc, p6, p7, p8, p9⟩, ⟨fr, p10⟩, fj, p11⟩ := hh
  refine z_met (by decide) (Nat.le_of_ble_eq_true rfl) ?_
  intro p e s m below meth c ls hF hr hlocks hnam hZ hl
  have hF : CallFix p m c b_M_length 1 s ([.ref (ad (104))] : List Value).toArray zz R_M := hF
  have hl : lv_has ls 1 [(0, .ref (ad (104)))] := hl
  refine lv_aload_n hF.1 hF.2.1 d_M_length_0 rfl (lv_at hl 0 rfl) ?_
  refine gf_M_29 hF hZ (104) (by omega) p1 rfl d_M_length_1 ?_
  exact z_iret hF hr hlocks hZ rfl ⟨rfl, rfl⟩ d_M_length_4
set_option maxHeartbeats 4000000 in
set_option maxRecDepth 100000 in
theorem c_M_words (l : Launch) {G : zG} {ad : Nat → Nat} {en : Nat → va_E} {N : Nat} {T : List Nat} {mw : List wd_W} (hN : 111 ≤ N) (h : pM G ad en T mw) : zMi l y_M_words b_M_words 1 .int 1 G ad en N [.ref (ad (104))] (fun v en1 => en1 = en ∧ v = nI mw.length) := by
  have hh := h
  obtain ⟨p1, p2, p26, p3, ⟨ft, p4, p5⟩, ⟨fl, fs, fc, p6, p7, p8, p9⟩, ⟨fr, p10⟩, fj, p11⟩ := hh
  refine z_met (by decide) (Nat.le_of_ble_eq_true rfl) ?_
  intro p e s m below meth c ls hF hr hlocks hnam hZ hl
  have hF : CallFix p m c b_M_words 1 s ([.ref (ad (104))] : List Value).toArray zz R_M := hF
  have hl : lv_has ls 1 [(0, .ref (ad (104)))] := hl
  refine lv_aload_n hF.1 hF.2.1 d_M_words_0 rfl (lv_at hl 0 rfl) ?_
  refine gf_M_37 hF hZ (104) (by omega) p1 rfl d_M_words_1 ?_
  exact z_iret hF hr hlocks hZ rfl ⟨rfl, rfl⟩ d_M_words_4
set_option maxHeartbeats 4000000 in
set_option maxRecDepth 100000 in
theorem c_M_typed (l : Launch) {G : zG} {ad : Nat → Nat} {en : Nat → va_E} {N : Nat} {T : List Nat} {mw : List wd_W} (hN : 111 ≤ N) (h : pM G ad en T mw) {i : Int32} : zMi l y_M_typed b_M_typed 2 .int 1 G ad en N [.ref (ad (104)), .int (i)] (fun v en1 => en1 = en ∧ v = iv (atv T i)) := by
  have hh := h
  obtain ⟨p1, p2, p26, p3, ⟨ft, p4, p5⟩, ⟨fl, fs, fc, p6, p7, p8, p9⟩, ⟨fr, p10⟩, fj, p11⟩ := hh
  refine z_met (by decide) (Nat.le_of_ble_eq_true rfl) ?_
  intro p e s m below meth c ls hF hr hlocks hnam hZ hl
  have hF : CallFix p m c b_M_typed 2 s ([.ref (ad (104)), .int (i)] : List Value).toArray zz R_M := hF
  have hl : lv_has ls 2 [(0, .ref (ad (104))), (1, .int (i))] := hl
  rcases pk_ix i (n := T.length) (by omega) with h3 | h3 | ⟨j, hj, rfl⟩
  · refine lv_iload_n hF.1 hF.2.1 d_M_typed_0 rfl (lv_at hl 1 rfl) ?_
    refine lv_if_lt (tgt := 21) hF.1 hF.2.1 d_M_typed_1 (by decide) (fun _ => ?_) (fun h => absurd h3 h)
    refine lv_iconst (v := ((-1))) hF.1 hF.2.1 d_M_typed_21 (by decide) ?_
    exact z_iret hF hr hlocks hZ rfl ⟨rfl, by rw [atv_neg h3]; exact iv_0.symm⟩ d_M_typed_22
  · have h4 : ¬ i < 0 := fun q => by
      rw [Int32.lt_iff_toInt_lt, Int32.toInt_zero] at q
      rw [Int32.le_iff_toInt_le, nI_toInt (by omega)] at h3
      omega
    refine lv_iload_n hF.1 hF.2.1 d_M_typed_0 rfl (lv_at hl 1 rfl) ?_
    refine lv_if_lt (tgt := 21) hF.1 hF.2.1 d_M_typed_1 (by decide) (fun h => absurd h h4) (fun _ => ?_)
    refine lv_iload_n hF.1 hF.2.1 d_M_typed_4 rfl (lv_at hl 1 rfl) ?_
    refine lv_aload_n hF.1 hF.2.1 d_M_typed_5 rfl (lv_at hl 0 rfl) ?_
    refine gf_M_29 hF hZ (104) (by omega) p1 rfl d_M_typed_6 ?_
    refine lv_icmp_ge (tgt := 21) hF.1 hF.2.1 d_M_typed_9 (by decide) (fun _ => ?_) (fun h => absurd h3 h)
    refine lv_iconst (v := ((-1))) hF.1 hF.2.1 d_M_typed_21 (by decide) ?_
    exact z_iret hF hr hlocks hZ rfl ⟨rfl, by rw [atv_big (by omega) h3 (Nat.le_refl _)]; exact iv_0.symm⟩ d_M_typed_22
  · refine lv_iload_n hF.1 hF.2.1 d_M_typed_0 rfl (lv_at hl 1 rfl) ?_
    refine lv_if_lt (tgt := 21) hF.1 hF.2.1 d_M_typed_1 (by decide) (fun h => absurd h (nI_pos (by omega))) (fun _ => ?_)
    refine lv_iload_n hF.1 hF.2.1 d_M_typed_4 rfl (lv_at hl 1 rfl) ?_
    refine lv_aload_n hF.1 hF.2.1 d_M_typed_5 rfl (lv_at hl 0 rfl) ?_
    refine gf_M_29 hF hZ (104) (by omega) p1 rfl d_M_typed_6 ?_
    refine lv_icmp_ge (tgt := 21) hF.1 hF.2.1 d_M_typed_9 (by decide) (fun h => absurd h (nI_ge hj (by omega))) (fun _ => ?_)
    refine lv_aload_n hF.1 hF.2.1 d_M_typed_12 rfl (lv_at hl 0 rfl) ?_
    refine gf_M_7 hF hZ (104) (by omega) p1 rfl d_M_typed_13 ?_
    refine lv_iload_n hF.1 hF.2.1 d_M_typed_16 rfl (lv_at hl 1 rfl) ?_
    refine z_iald hF hZ (105) (by omega) p4 (j) (by omega) (by omega) d_M_typed_17 ?_
    refine lv_goto (tgt := 22) hF.1 hF.2.1 d_M_typed_18 (by decide) ?_
    exact z_iret hF hr hlocks hZ rfl ⟨rfl, by rw [atv_nI (by omega), wd_cd_in hj, iv_s, p5 j hj]⟩ d_M_typed_22
set_option maxHeartbeats 4000000 in
set_option maxRecDepth 100000 in
theorem c_M_at (l : Launch) {G : zG} {ad : Nat → Nat} {en : Nat → va_E} {N : Nat} {T : List Nat} {mw : List wd_W} (hN : 111 ≤ N) (h : pM G ad en T mw) {w : Nat} {u : wd_W} (hw : mw[w]? = some u) {i : Nat} (hi : i < 8) : zMi l y_M_at b_M_at 3 .int 1 G ad en N [.ref (ad (104)), .int (nI (w)), .int (nI (i))] (fun v en1 => en1 = en ∧ v = iv (wd_cd u.1 i)) := by
  have hh := h
  obtain ⟨p1, p2, p26, p3, ⟨ft, p4, p5⟩, ⟨fl, fs, fc, p6, p7, p8, p9⟩, ⟨fr, p10⟩, fj, p11⟩ := hh
  have hwl := wd_lt_of hw
  obtain ⟨u8, u26, ut, us, uc, ul⟩ := p9 w u hw
  refine z_met (by decide) (Nat.le_of_ble_eq_true rfl) ?_
  intro p e s m below meth c ls hF hr hlocks hnam hZ hl
  have hF : CallFix p m c b_M_at 3 s ([.ref (ad (104)), .int (nI (w)), .int (nI (i))] : List Value).toArray zz R_M := hF
  have hl : lv_has ls 3 [(0, .ref (ad (104))), (1, .int (nI (w))), (2, .int (nI (i)))] := hl
  refine lv_iload_n hF.1 hF.2.1 d_M_at_0 rfl (lv_at hl 2 rfl) ?_
  refine lv_aload_n hF.1 hF.2.1 d_M_at_1 rfl (lv_at hl 0 rfl) ?_
  refine gf_M_16 hF hZ (104) (by omega) p1 rfl d_M_at_2 ?_
  refine lv_iload_n hF.1 hF.2.1 d_M_at_5 rfl (lv_at hl 1 rfl) ?_
  refine z_iald hF hZ (107) (by omega) p7 (w) (by omega) (by omega) d_M_at_6 ?_
  refine z_top (y := (nI (u.1.length))) us ?_
  refine lv_icmp_ge (tgt := 24) hF.1 hF.2.1 d_M_at_7 (by decide) (fun q => ?_) (fun q => ?_)
  · have q := (nI_leI (by omega) (by omega)).mp q
    refine lv_iconst (v := ((-1))) hF.1 hF.2.1 d_M_at_24 (by decide) ?_
    exact z_iret hF hr hlocks hZ rfl ⟨rfl, by rw [wd_cd_out q]; exact iv_0.symm⟩ d_M_at_25
  · have q : i < u.1.length := Nat.lt_of_not_le (fun z => q (nI_le z (by omega)))
    refine lv_aload_n hF.1 hF.2.1 d_M_at_10 rfl (lv_at hl 0 rfl) ?_
    refine gf_M_13 hF hZ (104) (by omega) p1 rfl d_M_at_11 ?_
    refine lv_bipush (v := (nI (8))) hF.1 hF.2.1 d_M_at_14 (by decide) ?_
    refine lv_iload_n hF.1 hF.2.1 d_M_at_16 rfl (lv_at hl 1 rfl) ?_
    refine lv_imul hF.1 hF.2.1 d_M_at_17 ?_
    refine z_top (pk_mul (8) (w)) ?_
    refine lv_iload_n hF.1 hF.2.1 d_M_at_18 rfl (lv_at hl 2 rfl) ?_
    refine lv_iadd hF.1 hF.2.1 d_M_at_19 ?_
    refine z_top (nI_add ((8) * (w)) (i)) ?_
    refine z_iald hF hZ (106) (by omega) p6 ((8) * (w) + i) (by omega) (by omega) d_M_at_20 ?_
    refine lv_goto (tgt := 25) hF.1 hF.2.1 d_M_at_21 (by decide) ?_
    exact z_iret hF hr hlocks hZ rfl ⟨rfl, by rw [wd_cd_in q, iv_s]; exact ul i q⟩ d_M_at_25
set_option maxHeartbeats 4000000 in
set_option maxRecDepth 100000 in
theorem c_M_before (l : Launch) {G : zG} {ad : Nat → Nat} {en : Nat → va_E} {N : Nat} {T : List Nat} {mw : List wd_W} (hN : 111 ≤ N) (h : pM G ad en T mw) {w : Nat} {u : wd_W} (hw : mw[w]? = some u) {x : Nat} {t : wd_W} (hx : mw[x]? = some t) : zMi l y_M_before b_M_before 4 .boolean 2 G ad en N [.ref (ad (104)), .int (nI (w)), .int (nI (x))] (fun v en1 => en1 = en ∧ v = bI (wd_lt u.1 t.1)) := by
  have hh := h
  obtain ⟨p1, p2, p26, p3, ⟨ft, p4, p5⟩, ⟨fl, fs, fc, p6, p7, p8, p9⟩, ⟨fr, p10⟩, fj, p11⟩ := hh
  have hwl := wd_lt_of hw
  obtain ⟨u8, u26, ut, us, uc, ul⟩ := p9 w u hw
  have hxl := wd_lt_of hx
  obtain ⟨t8, t26, tt, ts, tc, tl⟩ := p9 x t hx
  refine z_met (by decide) (Nat.le_of_ble_eq_true rfl) ?_
  intro p e s m below meth c ls hF hr hlocks hnam hZ hl
  have hF : CallFix p m c b_M_before 4 s ([.ref (ad (104)), .int (nI (w)), .int (nI (x))] : List Value).toArray zz R_M := hF
  have hl : lv_has ls 4 [(0, .ref (ad (104))), (1, .int (nI (w))), (2, .int (nI (x)))] := hl
  have loop : ∀ (n i : Nat) (H : Heap) (locs : List Loc) (ls : Array Slot), (i + n = 8) → (wd_lt u.1 t.1 = wd_lt (u.1.drop i) (t.1.drop i)) → lv_has ls 4 [(3, .int (nI (i))), (0, .ref (ad (104))), (1, .int (nI (w))), (2, .int (nI (x)))] → zH G ad en N s H locs → W p l e (zR 2) s m ([.ref (ad (104)), .int (nI (w)), .int (nI (x))] : List Value).toArray below meth c H locs 0 0 (MQ below (zQi G ad N (fun v en1 => en1 = en ∧ v = bI (wd_lt u.1 t.1))) ([.ref (ad (104)), .int (nI (w)), .int (nI (x))] : List Value).toArray s 0 0 (zA G)) (F0 m 2 ls []) := by
    intro n
    induction n with
    | zero =>
      intro i H locs ls hin hp hl hZ
      refine lv_iload_n hF.1 hF.2.1 d_M_before_2 rfl (lv_at hl 0 rfl) ?_
      refine lv_bipush (v := (nI (8))) hF.1 hF.2.1 d_M_before_3 (by decide) ?_
      refine lv_icmp_ge (tgt := 50) hF.1 hF.2.1 d_M_before_5 (by decide) (fun _ => ?_) (fun h => absurd (nI_le (by omega) (by omega)) h)
      refine lv_iconst (v := (nI (0))) hF.1 hF.2.1 d_M_before_50 (by decide) ?_
      exact z_iret hF hr hlocks hZ (by decide) ⟨rfl, by rw [hp, List.drop_eq_nil_of_le (show t.1.length ≤ i by omega), wd_lt_nilR]; rfl⟩ d_M_before_51
    | succ n ih =>
      intro i H locs ls hin hp hl hZ
      rw [wd_lt_s] at hp
      refine lv_iload_n hF.1 hF.2.1 d_M_before_2 rfl (lv_at hl 0 rfl) ?_
      refine lv_bipush (v := (nI (8))) hF.1 hF.2.1 d_M_before_3 (by decide) ?_
      refine lv_icmp_ge (tgt := 50) hF.1 hF.2.1 d_M_before_5 (by decide) (fun h => absurd h (nI_ge (show i < 8 by omega) (by omega))) (fun _ => ?_)
      refine lv_aload_n hF.1 hF.2.1 d_M_before_8 rfl (lv_at hl 1 rfl) ?_
      refine lv_iload_n hF.1 hF.2.1 d_M_before_9 rfl (lv_at hl 2 rfl) ?_
      refine lv_iload_n hF.1 hF.2.1 d_M_before_10 rfl (lv_at hl 0 rfl) ?_
      refine z_calli hZ (z_run cw_M_33 hF hZ (104) (c_M_at l hN h hw (i := i) (by omega)) (by decide) (by omega) p1 rfl rfl hl.1 rfl (Nat.le_of_ble_eq_true rfl) d_M_before_11) (fun v enq H locs hp hZ => ?_)
      obtain ⟨he, hv⟩ := hp
      subst hv
      have hZ := hZ.to he
      refine lv_aload_n hF.1 hF.2.1 d_M_before_14 rfl (lv_at hl 1 rfl) ?_
      refine lv_iload_n hF.1 hF.2.1 d_M_before_15 rfl (lv_at hl 3 rfl) ?_
      refine lv_iload_n hF.1 hF.2.1 d_M_before_16 rfl (lv_at hl 0 rfl) ?_
      refine z_calli hZ (z_run cw_M_33 hF hZ (104) (c_M_at l hN h hx (i := i) (by omega)) (by decide) (by omega) p1 rfl rfl hl.1 rfl (Nat.le_of_ble_eq_true rfl) d_M_before_17) (fun v enq H locs hp hZ => ?_)
      obtain ⟨he, hv⟩ := hp
      subst hv
      have hZ := hZ.to he
      refine lv_icmp_eq (tgt := 44) hF.1 hF.2.1 d_M_before_20 (by decide) (fun q => ?_) (fun q => ?_)
      · have q := (iv_eq (wd_cd_26 u26 i) (wd_cd_26 t26 i)).mp q
        rw [if_pos q] at hp
        refine lv_iinc (k := 0) (v := (nI (i + 1))) hF.1 hF.2.1 d_M_before_44 hl rfl (iinc_p (i)) (by decide) rfl (fun ls hl => ?_)
        have hl : lv_has ls 4 [(3, .int (nI (i + 1))), (0, .ref (ad (104))), (1, .int (nI (w))), (2, .int (nI (x)))] := hl
        refine lv_goto (tgt := 2) hF.1 hF.2.1 d_M_before_47 (by decide) ?_
        exact ih (i + 1) H locs ls (by omega) hp hl hZ
      · have q : ¬ wd_cd u.1 i = wd_cd t.1 i := fun z => q (by rw [z])
        rw [if_neg q] at hp
        refine lv_aload_n hF.1 hF.2.1 d_M_before_23 rfl (lv_at hl 1 rfl) ?_
        refine lv_iload_n hF.1 hF.2.1 d_M_before_24 rfl (lv_at hl 2 rfl) ?_
        refine lv_iload_n hF.1 hF.2.1 d_M_before_25 rfl (lv_at hl 0 rfl) ?_
        refine z_calli hZ (z_run cw_M_33 hF hZ (104) (c_M_at l hN h hw (i := i) (by omega)) (by decide) (by omega) p1 rfl rfl hl.1 rfl (Nat.le_of_ble_eq_true rfl) d_M_before_26) (fun v enq H locs hp hZ => ?_)
        obtain ⟨he, hv⟩ := hp
        subst hv
        have hZ := hZ.to he
        refine lv_aload_n hF.1 hF.2.1 d_M_before_29 rfl (lv_at hl 1 rfl) ?_
        refine lv_iload_n hF.1 hF.2.1 d_M_before_30 rfl (lv_at hl 3 rfl) ?_
        refine lv_iload_n hF.1 hF.2.1 d_M_before_31 rfl (lv_at hl 0 rfl) ?_
        refine z_calli hZ (z_run cw_M_33 hF hZ (104) (c_M_at l hN h hx (i := i) (by omega)) (by decide) (by omega) p1 rfl rfl hl.1 rfl (Nat.le_of_ble_eq_true rfl) d_M_before_32) (fun v enq H locs hp hZ => ?_)
        obtain ⟨he, hv⟩ := hp
        subst hv
        have hZ := hZ.to he
        refine lv_icmp_ge (tgt := 42) hF.1 hF.2.1 d_M_before_35 (by decide) (fun z => ?_) (fun z => ?_)
        · have z : ¬ wd_cd u.1 i < wd_cd t.1 i := fun y => by
            have y := (iv_lt (wd_cd_26 u26 i) (wd_cd_26 t26 i)).mpr y
            rw [Int32.lt_iff_toInt_lt] at y; rw [Int32.le_iff_toInt_le] at z; omega
          refine lv_iconst (v := (nI (0))) hF.1 hF.2.1 d_M_before_42 (by decide) ?_
          exact z_iret hF hr hlocks hZ (by decide) ⟨rfl, by rw [hp, decide_eq_false z]; rfl⟩ d_M_before_43
        · have z : wd_cd u.1 i < wd_cd t.1 i := (iv_lt (wd_cd_26 u26 i) (wd_cd_26 t26 i)).mp (by
            rw [Int32.lt_iff_toInt_lt]; rw [Int32.le_iff_toInt_le] at z; omega)
          refine lv_iconst (v := (nI (1))) hF.1 hF.2.1 d_M_before_38 (by decide) ?_
          refine lv_goto (tgt := 43) hF.1 hF.2.1 d_M_before_39 (by decide) ?_
          exact z_iret hF hr hlocks hZ (by decide) ⟨rfl, by rw [hp, decide_eq_true z]; rfl⟩ d_M_before_43
  refine lv_iconst (v := (nI (0))) hF.1 hF.2.1 d_M_before_0 (by decide) ?_
  refine lv_istore_n hF.1 hF.2.1 d_M_before_1 rfl hl (by decide) rfl (fun ls hl => ?_)
  have hl : lv_has ls 4 [(3, .int (nI (0))), (0, .ref (ad (104))), (1, .int (nI (w))), (2, .int (nI (x)))] := hl
  exact loop 8 0 _ _ ls (by omega) (by rw [List.drop_zero, List.drop_zero]) hl hZ
set_option maxHeartbeats 4000000 in
set_option maxRecDepth 100000 in
theorem c_M_rankOf (l : Launch) {G : zG} {ad : Nat → Nat} {en : Nat → va_E} {N : Nat} {T : List Nat} {mw : List wd_W} (hN : 111 ≤ N) (h : pM G ad en T mw) {w : Nat} {u : wd_W} (hw : mw[w]? = some u) : zMi l y_M_rankOf b_M_rankOf 4 .int 3 G ad en N [.ref (ad (104)), .int (nI (w))] (fun v en1 => en1 = en ∧ v = nI (mw.countP (fun v => wd_lt v.1 u.1))) := by
  have hh := h
  obtain ⟨p1, p2, p26, p3, ⟨ft, p4, p5⟩, ⟨fl, fs, fc, p6, p7, p8, p9⟩, ⟨fr, p10⟩, fj, p11⟩ := hh
  have hwl := wd_lt_of hw
  obtain ⟨u8, u26, ut, us, uc, ul⟩ := p9 w u hw
  refine z_met (by decide) (Nat.le_of_ble_eq_true rfl) ?_
  intro p e s m below meth c ls hF hr hlocks hnam hZ hl
  have hF : CallFix p m c b_M_rankOf 4 s ([.ref (ad (104)), .int (nI (w))] : List Value).toArray zz R_M := hF
  have hl : lv_has ls 4 [(0, .ref (ad (104))), (1, .int (nI (w)))] := hl
  have loop : ∀ (n i c0 : Nat) (H : Heap) (locs : List Loc) (ls : Array Slot), (i + n = mw.length) → (c0 = (mw.take i).countP (fun v => wd_lt v.1 u.1)) → lv_has ls 4 [(3, .int (nI (i))), (2, .int (nI (c0))), (0, .ref (ad (104))), (1, .int (nI (w)))] → zH G ad en N s H locs → W p l e (zR 3) s m ([.ref (ad (104)), .int (nI (w))] : List Value).toArray below meth c H locs 0 0 (MQ below (zQi G ad N (fun v en1 => en1 = en ∧ v = nI (mw.countP (fun v => wd_lt v.1 u.1)))) ([.ref (ad (104)), .int (nI (w))] : List Value).toArray s 0 0 (zA G)) (F0 m 4 ls []) := by
    intro n
    induction n with
    | zero =>
      intro i c0 H locs ls hin hp hl hZ
      refine lv_iload_n hF.1 hF.2.1 d_M_rankOf_4 rfl (lv_at hl 0 rfl) ?_
      refine lv_aload_n hF.1 hF.2.1 d_M_rankOf_5 rfl (lv_at hl 2 rfl) ?_
      refine gf_M_37 hF hZ (104) (by omega) p1 rfl d_M_rankOf_6 ?_
      refine lv_icmp_ge (tgt := 30) hF.1 hF.2.1 d_M_rankOf_9 (by decide) (fun _ => ?_) (fun h => absurd (nI_le (by omega) (by omega)) h)
      refine lv_iload_n hF.1 hF.2.1 d_M_rankOf_30 rfl (lv_at hl 1 rfl) ?_
      exact z_iret hF hr hlocks hZ rfl ⟨rfl, by rw [hp, List.take_of_length_le (by omega)]⟩ d_M_rankOf_31
    | succ n ih =>
      intro i c0 H locs ls hin hp hl hZ
      obtain ⟨x, hi⟩ := wd_some (show i < mw.length by omega)
      have hct := wd_cnt_s (fun v => wd_lt v.1 u.1) hi
      refine lv_iload_n hF.1 hF.2.1 d_M_rankOf_4 rfl (lv_at hl 0 rfl) ?_
      refine lv_aload_n hF.1 hF.2.1 d_M_rankOf_5 rfl (lv_at hl 2 rfl) ?_
      refine gf_M_37 hF hZ (104) (by omega) p1 rfl d_M_rankOf_6 ?_
      refine lv_icmp_ge (tgt := 30) hF.1 hF.2.1 d_M_rankOf_9 (by decide) (fun h => absurd h (nI_ge (show i < mw.length by omega) (by omega))) (fun _ => ?_)
      refine lv_aload_n hF.1 hF.2.1 d_M_rankOf_12 rfl (lv_at hl 2 rfl) ?_
      refine lv_iload_n hF.1 hF.2.1 d_M_rankOf_13 rfl (lv_at hl 0 rfl) ?_
      refine lv_iload_n hF.1 hF.2.1 d_M_rankOf_14 rfl (lv_at hl 3 rfl) ?_
      refine z_calli hZ (z_run cw_M_40 hF hZ (104) (c_M_before l hN h hi hw) (by decide) (by omega) p1 rfl rfl hl.1 rfl (Nat.le_of_ble_eq_true rfl) d_M_rankOf_15) (fun v enq H locs hp hZ => ?_)
      obtain ⟨he, hv⟩ := hp
      subst hv
      have hZ := hZ.to he
      refine lv_if_eq (tgt := 24) hF.1 hF.2.1 d_M_rankOf_18 (by decide) (fun q => ?_) (fun q => ?_)
      · have q := bI_0.mp q
        refine lv_iinc (k := 0) (v := (nI (i + 1))) hF.1 hF.2.1 d_M_rankOf_24 hl rfl (iinc_p (i)) (by decide) rfl (fun ls hl => ?_)
        have hl : lv_has ls 4 [(3, .int (nI (i + 1))), (2, .int (nI (c0))), (0, .ref (ad (104))), (1, .int (nI (w)))] := hl
        refine lv_goto (tgt := 4) hF.1 hF.2.1 d_M_rankOf_27 (by decide) ?_
        exact ih (i + 1) c0 H locs ls (by omega) (by rw [hct, q, ← hp]; rfl) hl hZ
      · have q := bI_1 q
        refine lv_iinc (k := 1) (v := (nI (c0 + 1))) hF.1 hF.2.1 d_M_rankOf_21 hl rfl (iinc_p (c0)) (by decide) rfl (fun ls hl => ?_)
        have hl : lv_has ls 4 [(2, .int (nI (c0 + 1))), (3, .int (nI (i))), (0, .ref (ad (104))), (1, .int (nI (w)))] := hl
        refine lv_iinc (k := 1) (v := (nI (i + 1))) hF.1 hF.2.1 d_M_rankOf_24 hl rfl (iinc_p (i)) (by decide) rfl (fun ls hl => ?_)
        have hl : lv_has ls 4 [(3, .int (nI (i + 1))), (2, .int (nI (c0 + 1))), (0, .ref (ad (104))), (1, .int (nI (w)))] := hl
        refine lv_goto (tgt := 4) hF.1 hF.2.1 d_M_rankOf_27 (by decide) ?_
        exact ih (i + 1) (c0 + 1) H locs ls (by omega) (by rw [hct, q, ← hp]; rfl) hl hZ
  refine lv_iconst (v := (nI (0))) hF.1 hF.2.1 d_M_rankOf_0 (by decide) ?_
  refine lv_istore_n hF.1 hF.2.1 d_M_rankOf_1 rfl hl (by decide) rfl (fun ls hl => ?_)
  have hl : lv_has ls 4 [(2, .int (nI (0))), (0, .ref (ad (104))), (1, .int (nI (w)))] := hl
  refine lv_iconst (v := (nI (0))) hF.1 hF.2.1 d_M_rankOf_2 (by decide) ?_
  refine lv_istore_n hF.1 hF.2.1 d_M_rankOf_3 rfl hl (by decide) rfl (fun ls hl => ?_)
  have hl : lv_has ls 4 [(3, .int (nI (0))), (2, .int (nI (0))), (0, .ref (ad (104))), (1, .int (nI (w)))] := hl
  exact loop mw.length 0 0 _ _ ls (by omega) (by rw [List.take_zero]; rfl) hl hZ
set_option maxHeartbeats 4000000 in
set_option maxRecDepth 100000 in
theorem c_M_place (l : Launch) {G : zG} {ad : Nat → Nat} {en : Nat → va_E} {N : Nat} {T : List Nat} {mw : List wd_W} (hN : 111 ≤ N) (h : pM G ad en T mw) {C : List wd_W} (hpm : C.Perm mw) (hso : wd_so C) {k : Int32} : zMi l y_M_place b_M_place 3 .int 4 G ad en N [.ref (ad (104)), .int (k)] (fun v en1 => en1 = en ∧ ((∃ w j u, mw[w]? = some u ∧ C[j]? = some u ∧ k = nI j ∧ v = nI w) ∨ (v = -1 ∧ (k < 0 ∨ nI C.length ≤ k)))) := by
  have hh := h
  obtain ⟨p1, p2, p26, p3, ⟨ft, p4, p5⟩, ⟨fl, fs, fc, p6, p7, p8, p9⟩, ⟨fr, p10⟩, fj, p11⟩ := hh
  have hlen := hpm.length_eq
  refine z_met (by decide) (Nat.le_of_ble_eq_true rfl) ?_
  intro p e s m below meth c ls hF hr hlocks hnam hZ hl
  have hF : CallFix p m c b_M_place 3 s ([.ref (ad (104)), .int (k)] : List Value).toArray zz R_M := hF
  have hl : lv_has ls 3 [(0, .ref (ad (104))), (1, .int (k))] := hl
  have loop : ∀ (n i : Nat) (H : Heap) (locs : List Loc) (ls : Array Slot), (i + n = mw.length) → (∀ w u, w < i → mw[w]? = some u → ¬ k = nI (mw.countP (fun v => wd_lt v.1 u.1))) → lv_has ls 3 [(2, .int (nI (i))), (0, .ref (ad (104))), (1, .int (k))] → zH G ad en N s H locs → W p l e (zR 4) s m ([.ref (ad (104)), .int (k)] : List Value).toArray below meth c H locs 0 0 (MQ below (zQi G ad N (fun v en1 => en1 = en ∧ ((∃ w j u, mw[w]? = some u ∧ C[j]? = some u ∧ k = nI j ∧ v = nI w) ∨ (v = -1 ∧ (k < 0 ∨ nI C.length ≤ k))))) ([.ref (ad (104)), .int (k)] : List Value).toArray s 0 0 (zA G)) (F0 m 2 ls []) := by
    intro n
    induction n with
    | zero =>
      intro i H locs ls hin hp hl hZ
      refine lv_iload_n hF.1 hF.2.1 d_M_place_2 rfl (lv_at hl 0 rfl) ?_
      refine lv_aload_n hF.1 hF.2.1 d_M_place_3 rfl (lv_at hl 1 rfl) ?_
      refine gf_M_37 hF hZ (104) (by omega) p1 rfl d_M_place_4 ?_
      refine lv_icmp_ge (tgt := 27) hF.1 hF.2.1 d_M_place_7 (by decide) (fun _ => ?_) (fun h => absurd (nI_le (by omega) (by omega)) h)
      refine lv_iconst (v := ((-1))) hF.1 hF.2.1 d_M_place_27 (by decide) ?_
      refine z_iret hF hr hlocks hZ rfl ⟨rfl, Or.inr ⟨rfl, ?_⟩⟩ d_M_place_28
      rcases pk_ix k (n := C.length) (by omega) with q | q | ⟨j, hj, rfl⟩
      · exact Or.inl q
      · exact Or.inr q
      · exfalso
        obtain ⟨u, hu⟩ := wd_some hj
        obtain ⟨w, hw⟩ := wd_mem hpm.symm hu
        refine hp w u (by have := wd_lt_of hw; omega) hw ?_
        rw [← hpm.countP_eq, wd_rank hso hu]
    | succ n ih =>
      intro i H locs ls hin hp hl hZ
      obtain ⟨u, hi⟩ := wd_some (show i < mw.length by omega)
      obtain ⟨j, hj, hrk⟩ := wd_rank2 hpm hso hi
      refine lv_iload_n hF.1 hF.2.1 d_M_place_2 rfl (lv_at hl 0 rfl) ?_
      refine lv_aload_n hF.1 hF.2.1 d_M_place_3 rfl (lv_at hl 1 rfl) ?_
      refine gf_M_37 hF hZ (104) (by omega) p1 rfl d_M_place_4 ?_
      refine lv_icmp_ge (tgt := 27) hF.1 hF.2.1 d_M_place_7 (by decide) (fun h => absurd h (nI_ge (show i < mw.length by omega) (by omega))) (fun _ => ?_)
      refine lv_aload_n hF.1 hF.2.1 d_M_place_10 rfl (lv_at hl 1 rfl) ?_
      refine lv_iload_n hF.1 hF.2.1 d_M_place_11 rfl (lv_at hl 0 rfl) ?_
      refine z_calli hZ (z_run cw_M_44 hF hZ (104) (c_M_rankOf l hN h hi) (by decide) (by omega) p1 rfl rfl hl.1 rfl (Nat.le_of_ble_eq_true rfl) d_M_place_12) (fun v enq H locs hp hZ => ?_)
      obtain ⟨he, hv⟩ := hp
      subst hv
      have hZ := hZ.to he
      refine lv_iload_n hF.1 hF.2.1 d_M_place_15 rfl (lv_at hl 2 rfl) ?_
      refine lv_icmp_ne (tgt := 21) hF.1 hF.2.1 d_M_place_16 (by decide) (fun q => ?_) (fun q => ?_)
      · refine lv_iinc (k := 0) (v := (nI (i + 1))) hF.1 hF.2.1 d_M_place_21 hl rfl (iinc_p (i)) (by decide) rfl (fun ls hl => ?_)
        have hl : lv_has ls 3 [(2, .int (nI (i + 1))), (0, .ref (ad (104))), (1, .int (k))] := hl
        refine lv_goto (tgt := 2) hF.1 hF.2.1 d_M_place_24 (by decide) ?_
        refine ih (i + 1) H locs ls (by omega) (fun w v hw hv => ?_) hl hZ
        by_cases y : w = i
        · subst y; cases hi.symm.trans hv; exact fun z => q z.symm
        · exact hp w v (by omega) hv
      · refine lv_iload_n hF.1 hF.2.1 d_M_place_19 rfl (lv_at hl 0 rfl) ?_
        exact z_iret hF hr hlocks hZ rfl ⟨rfl, Or.inl ⟨i, j, u, hi, hj, by rw [← q, hrk], rfl⟩⟩ d_M_place_20
  refine lv_iconst (v := (nI (0))) hF.1 hF.2.1 d_M_place_0 (by decide) ?_
  refine lv_istore_n hF.1 hF.2.1 d_M_place_1 rfl hl (by decide) rfl (fun ls hl => ?_)
  have hl : lv_has ls 3 [(2, .int (nI (0))), (0, .ref (ad (104))), (1, .int (k))] := hl
  exact loop mw.length 0 _ _ ls (by omega) (fun w u hw => absurd hw (Nat.not_lt_zero _)) hl hZ
set_option maxHeartbeats 4000000 in
set_option maxRecDepth 100000 in
theorem c_M_beginsTyped (l : Launch) {G : zG} {ad : Nat → Nat} {en : Nat → va_E} {N : Nat} {T : List Nat} {mw : List wd_W} (hN : 111 ≤ N) (h : pM G ad en T mw) {w : Nat} {u : wd_W} (hw : mw[w]? = some u) : zMi l y_M_beginsTyped b_M_beginsTyped 3 .boolean 1 G ad en N [.ref (ad (104)), .int (nI (w))] (fun v en1 => en1 = en ∧ v = bI (wpre u.1 T)) := by
  have hh := h
  obtain ⟨p1, p2, p26, p3, ⟨ft, p4, p5⟩, ⟨fl, fs, fc, p6, p7, p8, p9⟩, ⟨fr, p10⟩, fj, p11⟩ := hh
  have hwl := wd_lt_of hw
  obtain ⟨u8, u26, ut, us, uc, ul⟩ := p9 w u hw
  refine z_met (by decide) (Nat.le_of_ble_eq_true rfl) ?_
  intro p e s m below meth c ls hF hr hlocks hnam hZ hl
  have hF : CallFix p m c b_M_beginsTyped 3 s ([.ref (ad (104)), .int (nI (w))] : List Value).toArray zz R_M := hF
  have hl : lv_has ls 3 [(0, .ref (ad (104))), (1, .int (nI (w)))] := hl
  refine lv_aload_n hF.1 hF.2.1 d_M_beginsTyped_0 rfl (lv_at hl 0 rfl) ?_
  refine gf_M_16 hF hZ (104) (by omega) p1 rfl d_M_beginsTyped_1 ?_
  refine lv_iload_n hF.1 hF.2.1 d_M_beginsTyped_4 rfl (lv_at hl 1 rfl) ?_
  refine z_iald hF hZ (107) (by omega) p7 (w) (by omega) (by omega) d_M_beginsTyped_5 ?_
  refine z_top (y := (nI (u.1.length))) us ?_
  refine lv_aload_n hF.1 hF.2.1 d_M_beginsTyped_6 rfl (lv_at hl 0 rfl) ?_
  refine gf_M_29 hF hZ (104) (by omega) p1 rfl d_M_beginsTyped_7 ?_
  refine lv_icmp_ge (tgt := 15) hF.1 hF.2.1 d_M_beginsTyped_10 (by decide) (fun q => ?_) (fun q => ?_)
  · have q := (nI_leI (by omega) (by omega)).mp q
    have loop : ∀ (n i : Nat) (H : Heap) (locs : List Loc) (ls : Array Slot), (i + n = T.length) → (∀ j, j < i → wd_cd u.1 j = wd_cd T j) → lv_has ls 3 [(2, .int (nI (i))), (0, .ref (ad (104))), (1, .int (nI (w)))] → zH G ad en N s H locs → W p l e (zR 1) s m ([.ref (ad (104)), .int (nI (w))] : List Value).toArray below meth c H locs 0 0 (MQ below (zQi G ad N (fun v en1 => en1 = en ∧ v = bI (wpre u.1 T))) ([.ref (ad (104)), .int (nI (w))] : List Value).toArray s 0 0 (zA G)) (F0 m 17 ls []) := by
      intro n
      induction n with
      | zero =>
        intro i H locs ls hin hp hl hZ
        refine lv_iload_n hF.1 hF.2.1 d_M_beginsTyped_17 rfl (lv_at hl 0 rfl) ?_
        refine lv_aload_n hF.1 hF.2.1 d_M_beginsTyped_18 rfl (lv_at hl 1 rfl) ?_
        refine gf_M_29 hF hZ (104) (by omega) p1 rfl d_M_beginsTyped_19 ?_
        refine lv_icmp_ge (tgt := 53) hF.1 hF.2.1 d_M_beginsTyped_22 (by decide) (fun _ => ?_) (fun h => absurd (nI_le (by omega) (by omega)) h)
        refine lv_iconst (v := (nI (1))) hF.1 hF.2.1 d_M_beginsTyped_53 (by decide) ?_
        exact z_iret hF hr hlocks hZ (by decide) ⟨rfl, by rw [wpre_t (fun j hj => hp j (by omega))]; rfl⟩ d_M_beginsTyped_54
      | succ n ih =>
        intro i H locs ls hin hp hl hZ
        refine lv_iload_n hF.1 hF.2.1 d_M_beginsTyped_17 rfl (lv_at hl 0 rfl) ?_
        refine lv_aload_n hF.1 hF.2.1 d_M_beginsTyped_18 rfl (lv_at hl 1 rfl) ?_
        refine gf_M_29 hF hZ (104) (by omega) p1 rfl d_M_beginsTyped_19 ?_
        refine lv_icmp_ge (tgt := 53) hF.1 hF.2.1 d_M_beginsTyped_22 (by decide) (fun h => absurd h (nI_ge (show i < T.length by omega) (by omega))) (fun _ => ?_)
        refine lv_aload_n hF.1 hF.2.1 d_M_beginsTyped_25 rfl (lv_at hl 1 rfl) ?_
        refine gf_M_13 hF hZ (104) (by omega) p1 rfl d_M_beginsTyped_26 ?_
        refine lv_bipush (v := (nI (8))) hF.1 hF.2.1 d_M_beginsTyped_29 (by decide) ?_
        refine lv_iload_n hF.1 hF.2.1 d_M_beginsTyped_31 rfl (lv_at hl 2 rfl) ?_
        refine lv_imul hF.1 hF.2.1 d_M_beginsTyped_32 ?_
        refine z_top (pk_mul (8) (w)) ?_
        refine lv_iload_n hF.1 hF.2.1 d_M_beginsTyped_33 rfl (lv_at hl 0 rfl) ?_
        refine lv_iadd hF.1 hF.2.1 d_M_beginsTyped_34 ?_
        refine z_top (nI_add ((8) * (w)) (i)) ?_
        refine z_iald hF hZ (106) (by omega) p6 ((8) * (w) + i) (by omega) (by omega) d_M_beginsTyped_35 ?_
        refine z_top (y := (nI (u.1.getD i 0))) (ul i (by omega)) ?_
        refine lv_aload_n hF.1 hF.2.1 d_M_beginsTyped_36 rfl (lv_at hl 1 rfl) ?_
        refine gf_M_7 hF hZ (104) (by omega) p1 rfl d_M_beginsTyped_37 ?_
        refine lv_iload_n hF.1 hF.2.1 d_M_beginsTyped_40 rfl (lv_at hl 0 rfl) ?_
        refine z_iald hF hZ (105) (by omega) p4 (i) (by omega) (by omega) d_M_beginsTyped_41 ?_
        refine z_top (y := (nI (T.getD i 0))) (p5 i (by omega)) ?_
        have z1 := u26 i
        have z2 := p26 i
        refine lv_icmp_eq (tgt := 47) hF.1 hF.2.1 d_M_beginsTyped_42 (by decide) (fun y => ?_) (fun y => ?_)
        · have y := (nI_eq (by omega) (by omega)).mp y
          refine lv_iinc (k := 0) (v := (nI (i + 1))) hF.1 hF.2.1 d_M_beginsTyped_47 hl rfl (iinc_p (i)) (by decide) rfl (fun ls hl => ?_)
          have hl : lv_has ls 3 [(2, .int (nI (i + 1))), (0, .ref (ad (104))), (1, .int (nI (w)))] := hl
          refine lv_goto (tgt := 17) hF.1 hF.2.1 d_M_beginsTyped_50 (by decide) ?_
          refine ih (i + 1) H locs ls (by omega) (fun j hj => ?_) hl hZ
          by_cases z : j = i
          · rw [z, wd_cd_in (by omega), wd_cd_in (by omega), y]
          · exact hp j (by omega)
        · refine lv_iconst (v := (nI (0))) hF.1 hF.2.1 d_M_beginsTyped_45 (by decide) ?_
          exact z_iret hF hr hlocks hZ (by decide) ⟨rfl, by rw [wpre_f (i := i) (by omega) (fun z => y (by rw [(cd_iff (by omega) (by omega)).mp z]))]; rfl⟩ d_M_beginsTyped_46
    refine lv_iconst (v := (nI (0))) hF.1 hF.2.1 d_M_beginsTyped_15 (by decide) ?_
    refine lv_istore_n hF.1 hF.2.1 d_M_beginsTyped_16 rfl hl (by decide) rfl (fun ls hl => ?_)
    have hl : lv_has ls 3 [(2, .int (nI (0))), (0, .ref (ad (104))), (1, .int (nI (w)))] := hl
    exact loop T.length 0 _ _ ls (by omega) (fun j hj => absurd hj (Nat.not_lt_zero _)) hl hZ
  · have q : u.1.length < T.length := Nat.lt_of_not_le (fun z => q (nI_le z (by omega)))
    refine lv_iconst (v := (nI (0))) hF.1 hF.2.1 d_M_beginsTyped_13 (by decide) ?_
    exact z_iret hF hr hlocks hZ (by decide) ⟨rfl, by rw [wpre_f (i := u.1.length) q (by rw [wd_cd_out (Nat.le_refl _), wd_cd_in q]; omega)]; rfl⟩ d_M_beginsTyped_14
set_option maxHeartbeats 4000000 in
set_option maxRecDepth 100000 in
theorem c_M_same (l : Launch) {G : zG} {ad : Nat → Nat} {en : Nat → va_E} {N : Nat} {T : List Nat} {mw : List wd_W} (hN : 111 ≤ N) (h : pM G ad en T mw) : zMi l y_M_same b_M_same 2 .int 2 G ad en N [.ref (ad (104))] (fun v en1 => en1 = en ∧ ((∃ w u, mw[w]? = some u ∧ u.1 = T ∧ v = nI w) ∨ (v = -1 ∧ ∀ u ∈ mw, u.1 ≠ T))) := by
  have hh := h
  obtain ⟨p1, p2, p26, p3, ⟨ft, p4, p5⟩, ⟨fl, fs, fc, p6, p7, p8, p9⟩, ⟨fr, p10⟩, fj, p11⟩ := hh
  refine z_met (by decide) (Nat.le_of_ble_eq_true rfl) ?_
  intro p e s m below meth c ls hF hr hlocks hnam hZ hl
  have hF : CallFix p m c b_M_same 2 s ([.ref (ad (104))] : List Value).toArray zz R_M := hF
  have hl : lv_has ls 2 [(0, .ref (ad (104)))] := hl
  have loop : ∀ (n i : Nat) (H : Heap) (locs : List Loc) (ls : Array Slot), (i + n = mw.length) → (∀ w u, w < i → mw[w]? = some u → u.1 ≠ T) → lv_has ls 2 [(1, .int (nI (i))), (0, .ref (ad (104)))] → zH G ad en N s H locs → W p l e (zR 2) s m ([.ref (ad (104))] : List Value).toArray below meth c H locs 0 0 (MQ below (zQi G ad N (fun v en1 => en1 = en ∧ ((∃ w u, mw[w]? = some u ∧ u.1 = T ∧ v = nI w) ∨ (v = -1 ∧ ∀ u ∈ mw, u.1 ≠ T)))) ([.ref (ad (104))] : List Value).toArray s 0 0 (zA G)) (F0 m 2 ls []) := by
    intro n
    induction n with
    | zero =>
      intro i H locs ls hin hp hl hZ
      refine lv_iload_n hF.1 hF.2.1 d_M_same_2 rfl (lv_at hl 0 rfl) ?_
      refine lv_aload_n hF.1 hF.2.1 d_M_same_3 rfl (lv_at hl 1 rfl) ?_
      refine gf_M_37 hF hZ (104) (by omega) p1 rfl d_M_same_4 ?_
      refine lv_icmp_ge (tgt := 39) hF.1 hF.2.1 d_M_same_7 (by decide) (fun _ => ?_) (fun h => absurd (nI_le (by omega) (by omega)) h)
      refine lv_iconst (v := ((-1))) hF.1 hF.2.1 d_M_same_39 (by decide) ?_
      refine z_iret hF hr hlocks hZ rfl ⟨rfl, Or.inr ⟨rfl, fun u hu => ?_⟩⟩ d_M_same_40
      obtain ⟨k, hk⟩ := List.getElem?_of_mem hu
      exact hp k u (by have := wd_lt_of hk; omega) hk
    | succ n ih =>
      intro i H locs ls hin hp hl hZ
      obtain ⟨u, hi⟩ := wd_some (show i < mw.length by omega)
      obtain ⟨u8, u26, ut, us, uc, ul⟩ := p9 i u hi
      refine lv_iload_n hF.1 hF.2.1 d_M_same_2 rfl (lv_at hl 0 rfl) ?_
      refine lv_aload_n hF.1 hF.2.1 d_M_same_3 rfl (lv_at hl 1 rfl) ?_
      refine gf_M_37 hF hZ (104) (by omega) p1 rfl d_M_same_4 ?_
      refine lv_icmp_ge (tgt := 39) hF.1 hF.2.1 d_M_same_7 (by decide) (fun h => absurd h (nI_ge (show i < mw.length by omega) (by omega))) (fun _ => ?_)
      refine lv_aload_n hF.1 hF.2.1 d_M_same_10 rfl (lv_at hl 1 rfl) ?_
      refine gf_M_16 hF hZ (104) (by omega) p1 rfl d_M_same_11 ?_
      refine lv_iload_n hF.1 hF.2.1 d_M_same_14 rfl (lv_at hl 0 rfl) ?_
      refine z_iald hF hZ (107) (by omega) p7 (i) (by omega) (by omega) d_M_same_15 ?_
      refine z_top (y := (nI (u.1.length))) us ?_
      refine lv_aload_n hF.1 hF.2.1 d_M_same_16 rfl (lv_at hl 1 rfl) ?_
      refine gf_M_29 hF hZ (104) (by omega) p1 rfl d_M_same_17 ?_
      refine lv_icmp_ne (tgt := 33) hF.1 hF.2.1 d_M_same_20 (by decide) (fun q => ?_) (fun q => ?_)
      · refine lv_iinc (k := 0) (v := (nI (i + 1))) hF.1 hF.2.1 d_M_same_33 hl rfl (iinc_p (i)) (by decide) rfl (fun ls hl => ?_)
        have hl : lv_has ls 2 [(1, .int (nI (i + 1))), (0, .ref (ad (104)))] := hl
        refine lv_goto (tgt := 2) hF.1 hF.2.1 d_M_same_36 (by decide) ?_
        refine ih (i + 1) H locs ls (by omega) (fun w v hw hv => ?_) hl hZ
        by_cases y : w = i
        · subst y; cases hi.symm.trans hv; exact fun z => q (by rw [z])
        · exact hp w v (by omega) hv
      · have q := (nI_eq (by omega) (by omega)).mp q
        refine lv_aload_n hF.1 hF.2.1 d_M_same_23 rfl (lv_at hl 1 rfl) ?_
        refine lv_iload_n hF.1 hF.2.1 d_M_same_24 rfl (lv_at hl 0 rfl) ?_
        refine z_calli hZ (z_run cw_M_48 hF hZ (104) (c_M_beginsTyped l hN h hi) (by decide) (by omega) p1 rfl rfl hl.1 rfl (Nat.le_of_ble_eq_true rfl) d_M_same_25) (fun v enq H locs hp hZ => ?_)
        obtain ⟨he, hv⟩ := hp
        subst hv
        have hZ := hZ.to he
        refine lv_if_eq (tgt := 33) hF.1 hF.2.1 d_M_same_28 (by decide) (fun y2 => ?_) (fun y2 => ?_)
        · have y2 := bI_0.mp y2
          refine lv_iinc (k := 0) (v := (nI (i + 1))) hF.1 hF.2.1 d_M_same_33 hl rfl (iinc_p (i)) (by decide) rfl (fun ls hl => ?_)
          have hl : lv_has ls 2 [(1, .int (nI (i + 1))), (0, .ref (ad (104)))] := hl
          refine lv_goto (tgt := 2) hF.1 hF.2.1 d_M_same_36 (by decide) ?_
          refine ih (i + 1) H locs ls (by omega) (fun w v hw hv => ?_) hl hZ
          by_cases y : w = i
          · subst y; cases hi.symm.trans hv; exact fun z => by rw [(wsame_iff q).mpr z] at y2; cases y2
          · exact hp w v (by omega) hv
        · have y2 := bI_1 y2
          refine lv_iload_n hF.1 hF.2.1 d_M_same_31 rfl (lv_at hl 0 rfl) ?_
          exact z_iret hF hr hlocks hZ rfl ⟨rfl, Or.inl ⟨i, u, hi, (wsame_iff q).mp y2, rfl⟩⟩ d_M_same_32
  refine lv_iconst (v := (nI (0))) hF.1 hF.2.1 d_M_same_0 (by decide) ?_
  refine lv_istore_n hF.1 hF.2.1 d_M_same_1 rfl hl (by decide) rfl (fun ls hl => ?_)
  have hl : lv_has ls 2 [(1, .int (nI (0))), (0, .ref (ad (104)))] := hl
  exact loop mw.length 0 _ _ ls (by omega) (fun w u hw => absurd hw (Nat.not_lt_zero _)) hl hZ
