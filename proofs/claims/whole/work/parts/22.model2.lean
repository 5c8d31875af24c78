set_option maxHeartbeats 4000000 in
set_option maxRecDepth 100000 in
theorem c_M_learnN (l : Launch) {G : zG} {ad : Nat → Nat} {en : Nat → va_E} {N : Nat} {T : List Nat} {mw : List wd_W} (hN : 111 ≤ N) (h : pM G ad en T mw) {n : Int32} (hno : n < nI 1 ∨ nI 1000000 < n) : zMi l y_M_learn b_M_learn 4 .int 3 G ad en N [.ref (ad (104)), .int (n)] (fun v en1 => v = -1 ∧ en1 = en) := by
  have hh := h
  obtain ⟨p1, p2, p26, p3, ⟨ft, p4, p5⟩, ⟨fl, fs, fc, p6, p7, p8, p9⟩, ⟨fr, p10⟩, fj, p11⟩ := hh
  refine z_met (by decide) (Nat.le_of_ble_eq_true rfl) ?_
  intro p e s m below meth c ls hF hr hlocks hnam hZ hl
  have hF : CallFix p m c b_M_learn 4 s ([.ref (ad (104)), .int (n)] : List Value).toArray zz R_M := hF
  have hl : lv_has ls 4 [(0, .ref (ad (104))), (1, .int (n))] := hl
  refine lv_iload_n hF.1 hF.2.1 d_M_learn_0 rfl (lv_at hl 1 rfl) ?_
  refine lv_iconst (v := (nI (1))) hF.1 hF.2.1 d_M_learn_1 (by decide) ?_
  refine lv_icmp_lt (tgt := 11) hF.1 hF.2.1 d_M_learn_2 (by decide) (fun q => ?_) (fun q => ?_)
  · refine lv_iconst (v := ((-1))) hF.1 hF.2.1 d_M_learn_11 (by decide) ?_
    exact z_iret hF hr hlocks hZ rfl ⟨rfl, rfl⟩ d_M_learn_12
  · refine lv_iload_n hF.1 hF.2.1 d_M_learn_5 rfl (lv_at hl 1 rfl) ?_
    refine lv_ldc hF.1 hF.2.1 hF.2.2.2.1 (hF.2.2.2.2 _ cn_M_52) d_M_learn_6 ?_
    refine z_top (show (1000000 : Int32) = nI 1000000 by decide) ?_
    refine lv_icmp_le (tgt := 13) hF.1 hF.2.1 d_M_learn_8 (by decide) (fun q2 => ?_) (fun q2 => ?_)
    · exact absurd (hno.resolve_left q) (fun z => by
        rw [Int32.lt_iff_toInt_lt] at z; rw [Int32.le_iff_toInt_le] at q2; omega)
    · refine lv_iconst (v := ((-1))) hF.1 hF.2.1 d_M_learn_11 (by decide) ?_
      exact z_iret hF hr hlocks hZ rfl ⟨rfl, rfl⟩ d_M_learn_12
set_option maxHeartbeats 4000000 in
set_option maxRecDepth 100000 in
theorem c_M_learnL (l : Launch) {G : zG} {ad : Nat → Nat} {en : Nat → va_E} {N : Nat} {T : List Nat} {mw : List wd_W} (hN : 111 ≤ N) (h : pM G ad en T mw) {t : Nat} (ht1 : 1 ≤ t) (ht2 : t ≤ 1000000) (hno : T.length = 0 ∨ 8 < T.length) : zMi l y_M_learn b_M_learn 4 .int 3 G ad en N [.ref (ad (104)), .int (nI (t))] (fun v en1 => v = -2 ∧ en1 = en) := by
  have hh := h
  obtain ⟨p1, p2, p26, p3, ⟨ft, p4, p5⟩, ⟨fl, fs, fc, p6, p7, p8, p9⟩, ⟨fr, p10⟩, fj, p11⟩ := hh
  refine z_met (by decide) (Nat.le_of_ble_eq_true rfl) ?_
  intro p e s m below meth c ls hF hr hlocks hnam hZ hl
  have hF : CallFix p m c b_M_learn 4 s ([.ref (ad (104)), .int (nI (t))] : List Value).toArray zz R_M := hF
  have hl : lv_has ls 4 [(0, .ref (ad (104))), (1, .int (nI (t)))] := hl
  refine lv_iload_n hF.1 hF.2.1 d_M_learn_0 rfl (lv_at hl 1 rfl) ?_
  refine lv_iconst (v := (nI (1))) hF.1 hF.2.1 d_M_learn_1 (by decide) ?_
  refine lv_icmp_lt (tgt := 11) hF.1 hF.2.1 d_M_learn_2 (by decide) (fun h => absurd h (nI_nlt ht1 (by omega))) (fun _ => ?_)
  refine lv_iload_n hF.1 hF.2.1 d_M_learn_5 rfl (lv_at hl 1 rfl) ?_
  refine lv_ldc hF.1 hF.2.1 hF.2.2.2.1 (hF.2.2.2.2 _ cn_M_52) d_M_learn_6 ?_
  refine z_top (show (1000000 : Int32) = nI 1000000 by decide) ?_
  refine lv_icmp_le (tgt := 13) hF.1 hF.2.1 d_M_learn_8 (by decide) (fun _ => ?_) (fun h => absurd (nI_le ht2 (by omega)) h)
  refine lv_aload_n hF.1 hF.2.1 d_M_learn_13 rfl (lv_at hl 0 rfl) ?_
  refine gf_M_29 hF hZ (104) (by omega) p1 rfl d_M_learn_14 ?_
  refine lv_if_eq (tgt := 29) hF.1 hF.2.1 d_M_learn_17 (by decide) (fun q => ?_) (fun q => ?_)
  · refine lv_bipush (v := ((-2))) hF.1 hF.2.1 d_M_learn_29 (by decide) ?_
    exact z_iret hF hr hlocks hZ rfl ⟨rfl, rfl⟩ d_M_learn_31
  · have q : ¬ T.length = 0 := fun z => q (by rw [z]; rfl)
    refine lv_aload_n hF.1 hF.2.1 d_M_learn_20 rfl (lv_at hl 0 rfl) ?_
    refine gf_M_29 hF hZ (104) (by omega) p1 rfl d_M_learn_21 ?_
    refine lv_bipush (v := (nI (8))) hF.1 hF.2.1 d_M_learn_24 (by decide) ?_
    refine lv_icmp_le (tgt := 32) hF.1 hF.2.1 d_M_learn_26 (by decide) (fun h => absurd h (nI_ge (show 8 < T.length by omega) (by omega))) (fun _ => ?_)
    refine lv_bipush (v := ((-2))) hF.1 hF.2.1 d_M_learn_29 (by decide) ?_
    exact z_iret hF hr hlocks hZ rfl ⟨rfl, rfl⟩ d_M_learn_31
set_option maxHeartbeats 4000000 in
set_option maxRecDepth 100000 in
theorem c_M_learn (l : Launch) {G : zG} {ad : Nat → Nat} {en : Nat → va_E} {N : Nat} {T : List Nat} {mw : List wd_W} (hN : 111 ≤ N) (h : pM G ad en T mw) {t : Nat} (ht1 : 1 ≤ t) (ht2 : t ≤ 1000000) (hl1 : 1 ≤ T.length) (hl2 : T.length ≤ 8) : zMi l y_M_learn b_M_learn 4 .int 3 G ad en N [.ref (ad (104)), .int (nI (t))] (fun v en1 => (∀ r, r < 104 → en1 r = en r) ∧ ((∃ w u, mw[w]? = some u ∧ u.1 = T ∧ v = 1 ∧ pM G ad en1 T (mw.set w (u.1, min 1000000 (u.2 + t)))) ∨ ((∀ u ∈ mw, u.1 ≠ T) ∧ ((mw.length < 24 ∧ v = 0 ∧ pM G ad en1 T (mw ++ [(T, t)])) ∨ (¬ mw.length < 24 ∧ v = -3 ∧ pM G ad en1 T mw))))) := by
  have hh := h
  obtain ⟨p1, p2, p26, p3, ⟨ft, p4, p5⟩, ⟨fl, fs, fc, p6, p7, p8, p9⟩, ⟨fr, p10⟩, fj, p11⟩ := hh
  refine z_met (by decide) (Nat.le_of_ble_eq_true rfl) ?_
  intro p e s m below meth c ls hF hr hlocks hnam hZ hl
  have hF : CallFix p m c b_M_learn 4 s ([.ref (ad (104)), .int (nI (t))] : List Value).toArray zz R_M := hF
  have hl : lv_has ls 4 [(0, .ref (ad (104))), (1, .int (nI (t)))] := hl
  refine lv_iload_n hF.1 hF.2.1 d_M_learn_0 rfl (lv_at hl 1 rfl) ?_
  refine lv_iconst (v := (nI (1))) hF.1 hF.2.1 d_M_learn_1 (by decide) ?_
  refine lv_icmp_lt (tgt := 11) hF.1 hF.2.1 d_M_learn_2 (by decide) (fun h => absurd h (nI_nlt ht1 (by omega))) (fun _ => ?_)
  refine lv_iload_n hF.1 hF.2.1 d_M_learn_5 rfl (lv_at hl 1 rfl) ?_
  refine lv_ldc hF.1 hF.2.1 hF.2.2.2.1 (hF.2.2.2.2 _ cn_M_52) d_M_learn_6 ?_
  refine z_top (show (1000000 : Int32) = nI 1000000 by decide) ?_
  refine lv_icmp_le (tgt := 13) hF.1 hF.2.1 d_M_learn_8 (by decide) (fun _ => ?_) (fun h => absurd (nI_le ht2 (by omega)) h)
  refine lv_aload_n hF.1 hF.2.1 d_M_learn_13 rfl (lv_at hl 0 rfl) ?_
  refine gf_M_29 hF hZ (104) (by omega) p1 rfl d_M_learn_14 ?_
  refine lv_if_eq (tgt := 29) hF.1 hF.2.1 d_M_learn_17 (by decide) (fun h => absurd h (nI_ne0 hl1 (by omega))) (fun _ => ?_)
  refine lv_aload_n hF.1 hF.2.1 d_M_learn_20 rfl (lv_at hl 0 rfl) ?_
  refine gf_M_29 hF hZ (104) (by omega) p1 rfl d_M_learn_21 ?_
  refine lv_bipush (v := (nI (8))) hF.1 hF.2.1 d_M_learn_24 (by decide) ?_
  refine lv_icmp_le (tgt := 32) hF.1 hF.2.1 d_M_learn_26 (by decide) (fun _ => ?_) (fun h => absurd (nI_le hl2 (by omega)) h)
  refine lv_aload_n hF.1 hF.2.1 d_M_learn_32 rfl (lv_at hl 0 rfl) ?_
  refine z_calli hZ (z_run cw_M_53 hF hZ (104) (c_M_same l hN h) (by decide) (by omega) p1 rfl rfl hl.1 rfl (Nat.le_of_ble_eq_true rfl) d_M_learn_33) (fun v enq H locs hp hZ => ?_)
  obtain ⟨he, hd⟩ := hp
  have hZ := hZ.to he
  rcases hd with ⟨w, u, hw, hu, hv⟩ | ⟨hv, hno⟩
  · subst hv
    have hwl := wd_lt_of hw
    obtain ⟨u8, u26, ut, us, uc, ul⟩ := p9 w u hw
    refine lv_istore_n hF.1 hF.2.1 d_M_learn_36 rfl hl (by decide) rfl (fun ls hl => ?_)
    have hl : lv_has ls 4 [(2, .int (nI (w))), (0, .ref (ad (104))), (1, .int (nI (t)))] := hl
    refine lv_iload_n hF.1 hF.2.1 d_M_learn_37 rfl (lv_at hl 0 rfl) ?_
    refine lv_if_lt (tgt := 75) hF.1 hF.2.1 d_M_learn_38 (by decide) (fun h => absurd h (nI_pos (by omega))) (fun _ => ?_)
    refine lv_aload_n hF.1 hF.2.1 d_M_learn_41 rfl (lv_at hl 1 rfl) ?_
    refine gf_M_19 hF hZ (104) (by omega) p1 rfl d_M_learn_42 ?_
    refine lv_iload_n hF.1 hF.2.1 d_M_learn_45 rfl (lv_at hl 0 rfl) ?_
    refine lv_aload_n hF.1 hF.2.1 d_M_learn_46 rfl (lv_at hl 1 rfl) ?_
    refine gf_M_19 hF hZ (104) (by omega) p1 rfl d_M_learn_47 ?_
    refine lv_iload_n hF.1 hF.2.1 d_M_learn_50 rfl (lv_at hl 0 rfl) ?_
    refine z_iald hF hZ (108) (by omega) p8 (w) (by omega) (by omega) d_M_learn_51 ?_
    refine z_top (y := (nI (u.2))) uc ?_
    refine lv_iload_n hF.1 hF.2.1 d_M_learn_52 rfl (lv_at hl 2 rfl) ?_
    refine lv_iadd hF.1 hF.2.1 d_M_learn_53 ?_
    refine z_top (nI_add (u.2) (t)) ?_
    refine lv_ldc hF.1 hF.2.1 hF.2.2.2.1 (hF.2.2.2.2 _ cn_M_52) d_M_learn_54 ?_
    refine z_top (show (1000000 : Int32) = nI 1000000 by decide) ?_
    refine lv_icmp_le (tgt := 64) hF.1 hF.2.1 d_M_learn_56 (by decide) (fun q => ?_) (fun q => ?_)
    · have q := (nI_leI (by omega) (by omega)).mp q
      refine lv_aload_n hF.1 hF.2.1 d_M_learn_64 rfl (lv_at hl 1 rfl) ?_
      refine gf_M_19 hF hZ (104) (by omega) p1 rfl d_M_learn_65 ?_
      refine lv_iload_n hF.1 hF.2.1 d_M_learn_68 rfl (lv_at hl 0 rfl) ?_
      refine z_iald hF hZ (108) (by omega) p8 (w) (by omega) (by omega) d_M_learn_69 ?_
      refine z_top (y := (nI (u.2))) uc ?_
      refine lv_iload_n hF.1 hF.2.1 d_M_learn_70 rfl (lv_at hl 2 rfl) ?_
      refine lv_iadd hF.1 hF.2.1 d_M_learn_71 ?_
      refine z_top (nI_add (u.2) (t)) ?_
      refine z_iast hF hZ (108) (by omega) p8 (w) (by omega) (by omega) d_M_learn_72 (fun H locs hZ => ?_)
      obtain ⟨ze1, hn2⟩ : ∃ z, z = va_up en (108) (.inl (zI G, 24, .inl (upd (fc) (w) (nI (u.2 + t))))) := ⟨_, rfl⟩
      have hZ : zH G ad ze1 N s H locs := hZ.to hn2.symm
      have ff3 : ze1 (104) = .inr (kM, [.ref (ad (105)), .int (nI (T.length)), .ref (ad (106)), .ref (ad (107)), .ref (ad (108)), .int (nI (mw.length)), .ref (ad (109)), .ref (ad (110))]) := by rw [hn2, va_up_ne _ _ (by omega)]; exact p1
      have ff4 : ze1 (105) = .inl (zI G, 10, .inl (ft)) := by rw [hn2, va_up_ne _ _ (by omega)]; exact p4
      have ff5 : ze1 (106) = .inl (zI G, 192, .inl (fl)) := by rw [hn2, va_up_ne _ _ (by omega)]; exact p6
      have ff6 : ze1 (107) = .inl (zI G, 24, .inl (fs)) := by rw [hn2, va_up_ne _ _ (by omega)]; exact p7
      have ff7 : ze1 (109) = .inl (zI G, 99, .inl (fr)) := by rw [hn2, va_up_ne _ _ (by omega)]; exact p10
      have ff8 : ze1 (110) = .inl (zJ G, 252, .inr (.inl (fj))) := by rw [hn2, va_up_ne _ _ (by omega)]; exact p11
      have ff9 : ze1 (108) = .inl (zI G, 24, .inl (upd (fc) (w) (nI (u.2 + t)))) := by rw [hn2]; exact va_up_self _ _ _
      refine lv_iconst (v := (nI (1))) hF.1 hF.2.1 d_M_learn_73 (by decide) ?_
      refine z_iret hF hr hlocks hZ rfl ⟨fun r hr => by rw [hn2, va_up_ne _ _ (by omega)], Or.inl ⟨w, u, hw, hu, rfl, ⟨by rw [List.length_set]; exact ff3, p2, p26, by rw [List.length_set]; exact p3, ⟨ft, ff4, p5⟩, ⟨fl, fs, upd fc w (nI (u.2 + t)), ff5, ff6, ff9, fun w2 v2 hv2 => ?_⟩, ⟨fr, ff7⟩, fj, ff8⟩⟩⟩ d_M_learn_74
      by_cases e : w2 = w
      · subst e
        rw [List.getElem?_set_self hwl] at hv2
        cases hv2
        exact ⟨u8, u26, by show min 1000000 (u.2 + t) ≤ 1000000; omega, us, by rw [pk_us]; show _ = nI (min 1000000 (u.2 + t)); rw [Nat.min_eq_right (by omega)], ul⟩
      · rw [List.getElem?_set_ne (Ne.symm e)] at hv2
        rw [pk_un e]
        exact p9 w2 v2 hv2
    · have q : 1000000 < u.2 + t := Nat.lt_of_not_le (fun z => q (nI_le z (by omega)))
      refine lv_ldc hF.1 hF.2.1 hF.2.2.2.1 (hF.2.2.2.2 _ cn_M_52) d_M_learn_59 ?_
      refine z_top (show (1000000 : Int32) = nI 1000000 by decide) ?_
      refine lv_goto (tgt := 72) hF.1 hF.2.1 d_M_learn_61 (by decide) ?_
      refine z_iast hF hZ (108) (by omega) p8 (w) (by omega) (by omega) d_M_learn_72 (fun H locs hZ => ?_)
      obtain ⟨ze10, hn11⟩ : ∃ z, z = va_up en (108) (.inl (zI G, 24, .inl (upd (fc) (w) (nI (1000000))))) := ⟨_, rfl⟩
      have hZ : zH G ad ze10 N s H locs := hZ.to hn11.symm
      have ff12 : ze10 (104) = .inr (kM, [.ref (ad (105)), .int (nI (T.length)), .ref (ad (106)), .ref (ad (107)), .ref (ad (108)), .int (nI (mw.length)), .ref (ad (109)), .ref (ad (110))]) := by rw [hn11, va_up_ne _ _ (by omega)]; exact p1
      have ff13 : ze10 (105) = .inl (zI G, 10, .inl (ft)) := by rw [hn11, va_up_ne _ _ (by omega)]; exact p4
      have ff14 : ze10 (106) = .inl (zI G, 192, .inl (fl)) := by rw [hn11, va_up_ne _ _ (by omega)]; exact p6
      have ff15 : ze10 (107) = .inl (zI G, 24, .inl (fs)) := by rw [hn11, va_up_ne _ _ (by omega)]; exact p7
      have ff16 : ze10 (109) = .inl (zI G, 99, .inl (fr)) := by rw [hn11, va_up_ne _ _ (by omega)]; exact p10
      have ff17 : ze10 (110) = .inl (zJ G, 252, .inr (.inl (fj))) := by rw [hn11, va_up_ne _ _ (by omega)]; exact p11
      have ff18 : ze10 (108) = .inl (zI G, 24, .inl (upd (fc) (w) (nI (1000000)))) := by rw [hn11]; exact va_up_self _ _ _
      refine lv_iconst (v := (nI (1))) hF.1 hF.2.1 d_M_learn_73 (by decide) ?_
      refine z_iret hF hr hlocks hZ rfl ⟨fun r hr => by rw [hn11, va_up_ne _ _ (by omega)], Or.inl ⟨w, u, hw, hu, rfl, ⟨by rw [List.length_set]; exact ff12, p2, p26, by rw [List.length_set]; exact p3, ⟨ft, ff13, p5⟩, ⟨fl, fs, upd fc w (nI (1000000)), ff14, ff15, ff18, fun w2 v2 hv2 => ?_⟩, ⟨fr, ff16⟩, fj, ff17⟩⟩⟩ d_M_learn_74
      by_cases e : w2 = w
      · subst e
        rw [List.getElem?_set_self hwl] at hv2
        cases hv2
        exact ⟨u8, u26, by show min 1000000 (u.2 + t) ≤ 1000000; omega, us, by rw [pk_us]; show _ = nI (min 1000000 (u.2 + t)); rw [Nat.min_eq_left (by omega)], ul⟩
      · rw [List.getElem?_set_ne (Ne.symm e)] at hv2
        rw [pk_un e]
        exact p9 w2 v2 hv2
  · subst hv
    refine lv_istore_n hF.1 hF.2.1 d_M_learn_36 rfl hl (by decide) rfl (fun ls hl => ?_)
    have hl : lv_has ls 4 [(2, .int ((-1))), (0, .ref (ad (104))), (1, .int (nI (t)))] := hl
    refine lv_iload_n hF.1 hF.2.1 d_M_learn_37 rfl (lv_at hl 0 rfl) ?_
    refine lv_if_lt (tgt := 75) hF.1 hF.2.1 d_M_learn_38 (by decide) (fun _ => ?_) (fun h => absurd (by decide) h)
    refine lv_aload_n hF.1 hF.2.1 d_M_learn_75 rfl (lv_at hl 1 rfl) ?_
    refine gf_M_37 hF hZ (104) (by omega) p1 rfl d_M_learn_76 ?_
    refine lv_bipush (v := (nI (24))) hF.1 hF.2.1 d_M_learn_79 (by decide) ?_
    refine lv_icmp_ne (tgt := 87) hF.1 hF.2.1 d_M_learn_81 (by decide) (fun q => ?_) (fun q => ?_)
    · have q : mw.length < 24 := by
        have z : ¬ mw.length = 24 := fun z => q (by rw [z])
        omega
      have loop : ∀ (n i : Nat) (en1 : Nat → va_E) (fl1 : Nat → Int32) (H : Heap) (locs : List Loc) (ls : Array Slot), (i + n = T.length) → (∀ r, r ≠ 106 → en1 r = en r) → (en1 106 = .inl (zI G, 192, .inl fl1)) → (∀ a, a < 8 * mw.length → fl1 a = fl a) → (∀ j, j < i → fl1 (8 * mw.length + j) = nI (T.getD j 0)) → lv_has ls 4 [(3, .int (nI (i))), (2, .int ((-1))), (0, .ref (ad (104))), (1, .int (nI (t)))] → zH G ad en1 N s H locs → W p l e (zR 3) s m ([.ref (ad (104)), .int (nI (t))] : List Value).toArray below meth c H locs 0 0 (MQ below (zQi G ad N (fun v en1 => (∀ r, r < 104 → en1 r = en r) ∧ ((∃ w u, mw[w]? = some u ∧ u.1 = T ∧ v = 1 ∧ pM G ad en1 T (mw.set w (u.1, min 1000000 (u.2 + t)))) ∨ ((∀ u ∈ mw, u.1 ≠ T) ∧ ((mw.length < 24 ∧ v = 0 ∧ pM G ad en1 T (mw ++ [(T, t)])) ∨ (¬ mw.length < 24 ∧ v = -3 ∧ pM G ad en1 T mw)))))) ([.ref (ad (104)), .int (nI (t))] : List Value).toArray s 0 0 (zA G)) (F0 m 89 ls []) := by
        intro n
        induction n with
        | zero =>
          intro i en1 fl1 H locs ls hin hfr h6 ha hb hl hZ
          have q1 := (hfr 104 (by omega)).trans p1
          have q4 := (hfr 105 (by omega)).trans p4
          have q7 := (hfr 107 (by omega)).trans p7
          have q8 := (hfr 108 (by omega)).trans p8
          have q10 := (hfr 109 (by omega)).trans p10
          have q11 := (hfr 110 (by omega)).trans p11
          refine lv_iload_n hF.1 hF.2.1 d_M_learn_89 rfl (lv_at hl 0 rfl) ?_
          refine lv_aload_n hF.1 hF.2.1 d_M_learn_90 rfl (lv_at hl 2 rfl) ?_
          refine gf_M_29 hF hZ (104) (by omega) q1 rfl d_M_learn_91 ?_
          refine lv_icmp_ge (tgt := 123) hF.1 hF.2.1 d_M_learn_94 (by decide) (fun _ => ?_) (fun h => absurd (nI_le (by omega) (by omega)) h)
          refine lv_aload_n hF.1 hF.2.1 d_M_learn_123 rfl (lv_at hl 2 rfl) ?_
          refine gf_M_16 hF hZ (104) (by omega) q1 rfl d_M_learn_124 ?_
          refine lv_aload_n hF.1 hF.2.1 d_M_learn_127 rfl (lv_at hl 2 rfl) ?_
          refine gf_M_37 hF hZ (104) (by omega) q1 rfl d_M_learn_128 ?_
          refine lv_aload_n hF.1 hF.2.1 d_M_learn_131 rfl (lv_at hl 2 rfl) ?_
          refine gf_M_29 hF hZ (104) (by omega) q1 rfl d_M_learn_132 ?_
          refine z_iast hF hZ (107) (by omega) q7 (mw.length) (by omega) (by omega) d_M_learn_135 (fun H locs hZ => ?_)
          obtain ⟨ze19, hn20⟩ : ∃ z, z = va_up en1 (107) (.inl (zI G, 24, .inl (upd (fs) (mw.length) (nI (T.length))))) := ⟨_, rfl⟩
          have hZ : zH G ad ze19 N s H locs := hZ.to hn20.symm
          have ff21 : ze19 (104) = .inr (kM, [.ref (ad (105)), .int (nI (T.length)), .ref (ad (106)), .ref (ad (107)), .ref (ad (108)), .int (nI (mw.length)), .ref (ad (109)), .ref (ad (110))]) := by rw [hn20, va_up_ne _ _ (by omega)]; exact q1
          have ff22 : ze19 (105) = .inl (zI G, 10, .inl (ft)) := by rw [hn20, va_up_ne _ _ (by omega)]; exact q4
          have ff23 : ze19 (106) = .inl (zI G, 192, .inl (fl1)) := by rw [hn20, va_up_ne _ _ (by omega)]; exact h6
          have ff24 : ze19 (108) = .inl (zI G, 24, .inl (fc)) := by rw [hn20, va_up_ne _ _ (by omega)]; exact q8
          have ff25 : ze19 (109) = .inl (zI G, 99, .inl (fr)) := by rw [hn20, va_up_ne _ _ (by omega)]; exact q10
          have ff26 : ze19 (110) = .inl (zJ G, 252, .inr (.inl (fj))) := by rw [hn20, va_up_ne _ _ (by omega)]; exact q11
          have ff27 : ze19 (107) = .inl (zI G, 24, .inl (upd (fs) (mw.length) (nI (T.length)))) := by rw [hn20]; exact va_up_self _ _ _
          refine lv_aload_n hF.1 hF.2.1 d_M_learn_136 rfl (lv_at hl 2 rfl) ?_
          refine gf_M_19 hF hZ (104) (by omega) ff21 rfl d_M_learn_137 ?_
          refine lv_aload_n hF.1 hF.2.1 d_M_learn_140 rfl (lv_at hl 2 rfl) ?_
          refine gf_M_37 hF hZ (104) (by omega) ff21 rfl d_M_learn_141 ?_
          refine lv_iload_n hF.1 hF.2.1 d_M_learn_144 rfl (lv_at hl 3 rfl) ?_
          refine z_iast hF hZ (108) (by omega) ff24 (mw.length) (by omega) (by omega) d_M_learn_145 (fun H locs hZ => ?_)
          obtain ⟨ze28, hn29⟩ : ∃ z, z = va_up ze19 (108) (.inl (zI G, 24, .inl (upd (fc) (mw.length) (nI (t))))) := ⟨_, rfl⟩
          have hZ : zH G ad ze28 N s H locs := hZ.to hn29.symm
          have ff30 : ze28 (104) = .inr (kM, [.ref (ad (105)), .int (nI (T.length)), .ref (ad (106)), .ref (ad (107)), .ref (ad (108)), .int (nI (mw.length)), .ref (ad (109)), .ref (ad (110))]) := by rw [hn29, va_up_ne _ _ (by omega)]; exact ff21
          have ff31 : ze28 (105) = .inl (zI G, 10, .inl (ft)) := by rw [hn29, va_up_ne _ _ (by omega)]; exact ff22
          have ff32 : ze28 (106) = .inl (zI G, 192, .inl (fl1)) := by rw [hn29, va_up_ne _ _ (by omega)]; exact ff23
          have ff33 : ze28 (109) = .inl (zI G, 99, .inl (fr)) := by rw [hn29, va_up_ne _ _ (by omega)]; exact ff25
          have ff34 : ze28 (110) = .inl (zJ G, 252, .inr (.inl (fj))) := by rw [hn29, va_up_ne _ _ (by omega)]; exact ff26
          have ff35 : ze28 (107) = .inl (zI G, 24, .inl (upd (fs) (mw.length) (nI (T.length)))) := by rw [hn29, va_up_ne _ _ (by omega)]; exact ff27
          have ff36 : ze28 (108) = .inl (zI G, 24, .inl (upd (fc) (mw.length) (nI (t)))) := by rw [hn29]; exact va_up_self _ _ _
          refine lv_aload_n hF.1 hF.2.1 d_M_learn_146 rfl (lv_at hl 2 rfl) ?_
          refine lv_dup hF.1 hF.2.1 d_M_learn_147 rfl ?_
          refine gf_M_37 hF hZ (104) (by omega) ff30 rfl d_M_learn_148 ?_
          refine lv_iconst (v := (nI (1))) hF.1 hF.2.1 d_M_learn_151 (by decide) ?_
          refine lv_iadd hF.1 hF.2.1 d_M_learn_152 ?_
          refine z_top (nI_add (mw.length) (1)) ?_
          refine pf_M_37 hF hZ (104) (by omega) ff30 (Nat.le_of_ble_eq_true rfl) d_M_learn_153 (fun H locs hZ => ?_)
          obtain ⟨ze37, hn38⟩ : ∃ z, z = va_up ze28 (104) (.inr (kM, [.ref (ad (105)), .int (nI (T.length)), .ref (ad (106)), .ref (ad (107)), .ref (ad (108)), .int (nI (mw.length + 1)), .ref (ad (109)), .ref (ad (110))])) := ⟨_, rfl⟩
          have hZ : zH G ad ze37 N s H locs := hZ.to hn38.symm
          have ff39 : ze37 (105) = .inl (zI G, 10, .inl (ft)) := by rw [hn38, va_up_ne _ _ (by omega)]; exact ff31
          have ff40 : ze37 (106) = .inl (zI G, 192, .inl (fl1)) := by rw [hn38, va_up_ne _ _ (by omega)]; exact ff32
          have ff41 : ze37 (109) = .inl (zI G, 99, .inl (fr)) := by rw [hn38, va_up_ne _ _ (by omega)]; exact ff33
          have ff42 : ze37 (110) = .inl (zJ G, 252, .inr (.inl (fj))) := by rw [hn38, va_up_ne _ _ (by omega)]; exact ff34
          have ff43 : ze37 (107) = .inl (zI G, 24, .inl (upd (fs) (mw.length) (nI (T.length)))) := by rw [hn38, va_up_ne _ _ (by omega)]; exact ff35
          have ff44 : ze37 (108) = .inl (zI G, 24, .inl (upd (fc) (mw.length) (nI (t)))) := by rw [hn38, va_up_ne _ _ (by omega)]; exact ff36
          have ff45 : ze37 (104) = .inr (kM, [.ref (ad (105)), .int (nI (T.length)), .ref (ad (106)), .ref (ad (107)), .ref (ad (108)), .int (nI (mw.length + 1)), .ref (ad (109)), .ref (ad (110))]) := by rw [hn38]; exact va_up_self _ _ _
          refine lv_iconst (v := (nI (0))) hF.1 hF.2.1 d_M_learn_156 (by decide) ?_
          refine z_iret hF hr hlocks hZ rfl ⟨fun r hr => by rw [hn38, va_up_ne _ _ (by omega), hn29, va_up_ne _ _ (by omega), hn20, va_up_ne _ _ (by omega)]; exact hfr r (by omega), Or.inr ⟨hno, Or.inl ⟨q, rfl, ⟨by rw [List.length_append]; exact ff45, p2, p26, by rw [List.length_append]; exact q, ⟨ft, ff39, p5⟩, ⟨fl1, _, _, ff40, ff43, ff44, fun w2 v2 hv2 => ?_⟩, ⟨fr, ff41⟩, fj, ff42⟩⟩⟩⟩ d_M_learn_157
          by_cases e : w2 = mw.length
          · subst e
            rw [List.getElem?_append_right (Nat.le_refl _), Nat.sub_self] at hv2
            cases hv2
            exact ⟨hl2, p26, ht2, by rw [pk_us], by rw [pk_us], fun j hj => hb j (by have hj : j < T.length := hj; omega)⟩
          · have hw2 := wd_lt_of hv2
            rw [List.length_append, List.length_singleton] at hw2
            rw [List.getElem?_append_left (by omega)] at hv2
            obtain ⟨a1, a2, a3, a4, a5, a6⟩ := p9 w2 v2 hv2
            exact ⟨a1, a2, a3, by rw [pk_un e]; exact a4, by rw [pk_un e]; exact a5, fun j hj => by rw [ha _ (by omega)]; exact a6 j hj⟩
        | succ n ih =>
          intro i en1 fl1 H locs ls hin hfr h6 ha hb hl hZ
          have q1 := (hfr 104 (by omega)).trans p1
          have q4 := (hfr 105 (by omega)).trans p4
          have q7 := (hfr 107 (by omega)).trans p7
          have q8 := (hfr 108 (by omega)).trans p8
          have q10 := (hfr 109 (by omega)).trans p10
          have q11 := (hfr 110 (by omega)).trans p11
          refine lv_iload_n hF.1 hF.2.1 d_M_learn_89 rfl (lv_at hl 0 rfl) ?_
          refine lv_aload_n hF.1 hF.2.1 d_M_learn_90 rfl (lv_at hl 2 rfl) ?_
          refine gf_M_29 hF hZ (104) (by omega) q1 rfl d_M_learn_91 ?_
          refine lv_icmp_ge (tgt := 123) hF.1 hF.2.1 d_M_learn_94 (by decide) (fun h => absurd h (nI_ge (show i < T.length by omega) (by omega))) (fun _ => ?_)
          refine lv_aload_n hF.1 hF.2.1 d_M_learn_97 rfl (lv_at hl 2 rfl) ?_
          refine gf_M_13 hF hZ (104) (by omega) q1 rfl d_M_learn_98 ?_
          refine lv_bipush (v := (nI (8))) hF.1 hF.2.1 d_M_learn_101 (by decide) ?_
          refine lv_aload_n hF.1 hF.2.1 d_M_learn_103 rfl (lv_at hl 2 rfl) ?_
          refine gf_M_37 hF hZ (104) (by omega) q1 rfl d_M_learn_104 ?_
          refine lv_imul hF.1 hF.2.1 d_M_learn_107 ?_
          refine z_top (pk_mul (8) (mw.length)) ?_
          refine lv_iload_n hF.1 hF.2.1 d_M_learn_108 rfl (lv_at hl 0 rfl) ?_
          refine lv_iadd hF.1 hF.2.1 d_M_learn_109 ?_
          refine z_top (nI_add ((8) * (mw.length)) (i)) ?_
          refine lv_aload_n hF.1 hF.2.1 d_M_learn_110 rfl (lv_at hl 2 rfl) ?_
          refine gf_M_7 hF hZ (104) (by omega) q1 rfl d_M_learn_111 ?_
          refine lv_iload_n hF.1 hF.2.1 d_M_learn_114 rfl (lv_at hl 0 rfl) ?_
          refine z_iald hF hZ (105) (by omega) q4 (i) (by omega) (by omega) d_M_learn_115 ?_
          refine z_top (y := (nI (T.getD i 0))) (p5 i (by omega)) ?_
          refine z_iast hF hZ (106) (by omega) h6 ((8) * (mw.length) + i) (by omega) (by omega) d_M_learn_116 (fun H locs hZ => ?_)
          obtain ⟨ze46, hn47⟩ : ∃ z, z = va_up en1 (106) (.inl (zI G, 192, .inl (upd (fl1) ((8) * (mw.length) + i) (nI (T.getD i 0))))) := ⟨_, rfl⟩
          have hZ : zH G ad ze46 N s H locs := hZ.to hn47.symm
          have ff48 : ze46 (104) = .inr (kM, [.ref (ad (105)), .int (nI (T.length)), .ref (ad (106)), .ref (ad (107)), .ref (ad (108)), .int (nI (mw.length)), .ref (ad (109)), .ref (ad (110))]) := by rw [hn47, va_up_ne _ _ (by omega)]; exact q1
          have ff49 : ze46 (105) = .inl (zI G, 10, .inl (ft)) := by rw [hn47, va_up_ne _ _ (by omega)]; exact q4
          have ff50 : ze46 (107) = .inl (zI G, 24, .inl (fs)) := by rw [hn47, va_up_ne _ _ (by omega)]; exact q7
          have ff51 : ze46 (108) = .inl (zI G, 24, .inl (fc)) := by rw [hn47, va_up_ne _ _ (by omega)]; exact q8
          have ff52 : ze46 (109) = .inl (zI G, 99, .inl (fr)) := by rw [hn47, va_up_ne _ _ (by omega)]; exact q10
          have ff53 : ze46 (110) = .inl (zJ G, 252, .inr (.inl (fj))) := by rw [hn47, va_up_ne _ _ (by omega)]; exact q11
          have ff54 : ze46 (106) = .inl (zI G, 192, .inl (upd (fl1) ((8) * (mw.length) + i) (nI (T.getD i 0)))) := by rw [hn47]; exact va_up_self _ _ _
          refine lv_iinc (k := 0) (v := (nI (i + 1))) hF.1 hF.2.1 d_M_learn_117 hl rfl (iinc_p (i)) (by decide) rfl (fun ls hl => ?_)
          have hl : lv_has ls 4 [(3, .int (nI (i + 1))), (2, .int ((-1))), (0, .ref (ad (104))), (1, .int (nI (t)))] := hl
          refine lv_goto (tgt := 89) hF.1 hF.2.1 d_M_learn_120 (by decide) ?_
          refine ih (i + 1) ze46 (upd fl1 (8 * mw.length + i) (nI (T.getD i 0))) H locs ls (by omega) (fun r hr => by rw [hn47, va_up_ne _ _ hr]; exact hfr r hr) ff54 (fun a h8 => by rw [pk_un (by omega)]; exact ha a h8) (fun j hj => ?_) hl hZ
          by_cases e : j = i
          · subst e; rw [pk_us]
          · rw [pk_un (by omega)]; exact hb j (by omega)
      refine lv_iconst (v := (nI (0))) hF.1 hF.2.1 d_M_learn_87 (by decide) ?_
      refine lv_istore_n hF.1 hF.2.1 d_M_learn_88 rfl hl (by decide) rfl (fun ls hl => ?_)
      have hl : lv_has ls 4 [(3, .int (nI (0))), (2, .int ((-1))), (0, .ref (ad (104))), (1, .int (nI (t)))] := hl
      exact loop T.length 0 en fl _ _ ls (by omega) (fun _ _ => rfl) p6 (fun _ _ => rfl) (fun j hj => absurd hj (Nat.not_lt_zero _)) hl hZ
    · have q : ¬ mw.length < 24 := by have := (nI_eq (by omega) (by omega)).mp q; omega
      refine lv_bipush (v := ((-3))) hF.1 hF.2.1 d_M_learn_84 (by decide) ?_
      exact z_iret hF hr hlocks hZ rfl ⟨fun r hr => rfl, Or.inr ⟨hno, Or.inr ⟨q, rfl, h⟩⟩⟩ d_M_learn_86
set_option maxHeartbeats 4000000 in
set_option maxRecDepth 100000 in
theorem c_M_forget (l : Launch) {G : zG} {ad : Nat → Nat} {en : Nat → va_E} {N : Nat} {T : List Nat} {mw : List wd_W} (hN : 111 ≤ N) (h : pM G ad en T mw) {C : List wd_W} (hpm : C.Perm mw) (hso : wd_so C) {k : Int32} : zMi l y_M_forget b_M_forget 4 .boolean 5 G ad en N [.ref (ad (104)), .int (k)] (fun v en1 => (∀ r, r < 104 → en1 r = en r) ∧ ((∃ w j u, mw[w]? = some u ∧ C[j]? = some u ∧ k = nI j ∧ v = 1 ∧ pM G ad en1 T (wd_rm mw w)) ∨ ((k < 0 ∨ nI C.length ≤ k) ∧ v = 0 ∧ en1 = en))) := by
  have hh := h
  obtain ⟨p1, p2, p26, p3, ⟨ft, p4, p5⟩, ⟨fl, fs, fc, p6, p7, p8, p9⟩, ⟨fr, p10⟩, fj, p11⟩ := hh
  refine z_met (by decide) (Nat.le_of_ble_eq_true rfl) ?_
  intro p e s m below meth c ls hF hr hlocks hnam hZ hl
  have hF : CallFix p m c b_M_forget 4 s ([.ref (ad (104)), .int (k)] : List Value).toArray zz R_M := hF
  have hl : lv_has ls 4 [(0, .ref (ad (104))), (1, .int (k))] := hl
  refine lv_aload_n hF.1 hF.2.1 d_M_forget_0 rfl (lv_at hl 0 rfl) ?_
  refine lv_iload_n hF.1 hF.2.1 d_M_forget_1 rfl (lv_at hl 1 rfl) ?_
  refine z_calli hZ (z_run cw_M_57 hF hZ (104) (c_M_place l hN h hpm hso) (by decide) (by omega) p1 rfl rfl hl.1 rfl (Nat.le_of_ble_eq_true rfl) d_M_forget_2) (fun v enq H locs hp hZ => ?_)
  obtain ⟨he, hd⟩ := hp
  have hZ := hZ.to he
  rcases hd with ⟨w, j, u, hw, hj, hk, hv⟩ | ⟨hv, hno⟩
  · subst hv
    have hwl := wd_lt_of hw
    obtain ⟨u8, u26, ut, us, uc, ul⟩ := p9 w u hw
    refine lv_istore_n hF.1 hF.2.1 d_M_forget_5 rfl hl (by decide) rfl (fun ls hl => ?_)
    have hl : lv_has ls 4 [(2, .int (nI (w))), (0, .ref (ad (104))), (1, .int (k))] := hl
    refine lv_iload_n hF.1 hF.2.1 d_M_forget_6 rfl (lv_at hl 0 rfl) ?_
    refine lv_if_ge (tgt := 12) hF.1 hF.2.1 d_M_forget_7 (by decide) (fun _ => ?_) (fun h => absurd (nI_pos' (by omega)) h)
    refine lv_aload_n hF.1 hF.2.1 d_M_forget_12 rfl (lv_at hl 1 rfl) ?_
    refine lv_dup hF.1 hF.2.1 d_M_forget_13 rfl ?_
    refine gf_M_37 hF hZ (104) (by omega) p1 rfl d_M_forget_14 ?_
    refine lv_iconst (v := (nI (1))) hF.1 hF.2.1 d_M_forget_17 (by decide) ?_
    refine lv_isub hF.1 hF.2.1 d_M_forget_18 ?_
    refine z_top (pk_sub (show 1 ≤ mw.length by omega)) ?_
    refine pf_M_37 hF hZ (104) (by omega) p1 (Nat.le_of_ble_eq_true rfl) d_M_forget_19 (fun H locs hZ => ?_)
    obtain ⟨ze1, hn2⟩ : ∃ z, z = va_up en (104) (.inr (kM, [.ref (ad (105)), .int (nI (T.length)), .ref (ad (106)), .ref (ad (107)), .ref (ad (108)), .int (nI (mw.length - (1))), .ref (ad (109)), .ref (ad (110))])) := ⟨_, rfl⟩
    have hZ : zH G ad ze1 N s H locs := hZ.to hn2.symm
    have ff3 : ze1 (105) = .inl (zI G, 10, .inl (ft)) := by rw [hn2, va_up_ne _ _ (by omega)]; exact p4
    have ff4 : ze1 (106) = .inl (zI G, 192, .inl (fl)) := by rw [hn2, va_up_ne _ _ (by omega)]; exact p6
    have ff5 : ze1 (107) = .inl (zI G, 24, .inl (fs)) := by rw [hn2, va_up_ne _ _ (by omega)]; exact p7
    have ff6 : ze1 (108) = .inl (zI G, 24, .inl (fc)) := by rw [hn2, va_up_ne _ _ (by omega)]; exact p8
    have ff7 : ze1 (109) = .inl (zI G, 99, .inl (fr)) := by rw [hn2, va_up_ne _ _ (by omega)]; exact p10
    have ff8 : ze1 (110) = .inl (zJ G, 252, .inr (.inl (fj))) := by rw [hn2, va_up_ne _ _ (by omega)]; exact p11
    have ff9 : ze1 (104) = .inr (kM, [.ref (ad (105)), .int (nI (T.length)), .ref (ad (106)), .ref (ad (107)), .ref (ad (108)), .int (nI (mw.length - (1))), .ref (ad (109)), .ref (ad (110))]) := by rw [hn2]; exact va_up_self _ _ _
    have loop : ∀ (n i : Nat) (en1 : Nat → va_E) (fl1 : Nat → Int32) (H : Heap) (locs : List Loc) (ls : Array Slot), (i + n = 8) → (∀ r, r ≠ 106 → en1 r = ze1 r) → (en1 106 = .inl (zI G, 192, .inl fl1)) → (∀ x, fl1 x = if 8 * w ≤ x ∧ x < 8 * w + i then fl (8 * (mw.length - 1) + (x - 8 * w)) else fl x) → lv_has ls 4 [(3, .int (nI (i))), (2, .int (nI (w))), (0, .ref (ad (104))), (1, .int (k))] → zH G ad en1 N s H locs → W p l e (zR 5) s m ([.ref (ad (104)), .int (k)] : List Value).toArray below meth c H locs 0 0 (MQ below (zQi G ad N (fun v en1 => (∀ r, r < 104 → en1 r = en r) ∧ ((∃ w j u, mw[w]? = some u ∧ C[j]? = some u ∧ k = nI j ∧ v = 1 ∧ pM G ad en1 T (wd_rm mw w)) ∨ ((k < 0 ∨ nI C.length ≤ k) ∧ v = 0 ∧ en1 = en)))) ([.ref (ad (104)), .int (k)] : List Value).toArray s 0 0 (zA G)) (F0 m 24 ls []) := by
      intro n
      induction n with
      | zero =>
        intro i en1 fl1 H locs ls hin hfr h6 ha hl hZ
        have q1 := (hfr 104 (by omega)).trans ff9
        have q4 := (hfr 105 (by omega)).trans ff3
        have q7 := (hfr 107 (by omega)).trans ff5
        have q8 := (hfr 108 (by omega)).trans ff6
        have q10 := (hfr 109 (by omega)).trans ff7
        have q11 := (hfr 110 (by omega)).trans ff8
        obtain ⟨x, hx⟩ := wd_some (show mw.length - 1 < mw.length by omega)
        obtain ⟨x8, x26, xt, xs, xc, xl⟩ := p9 _ x hx
        have hi8 : i = 8 := by omega
        subst hi8
        refine lv_iload_n hF.1 hF.2.1 d_M_forget_24 rfl (lv_at hl 0 rfl) ?_
        refine lv_bipush (v := (nI (8))) hF.1 hF.2.1 d_M_forget_25 (by decide) ?_
        refine lv_icmp_ge (tgt := 61) hF.1 hF.2.1 d_M_forget_27 (by decide) (fun _ => ?_) (fun h => absurd (nI_le (by omega) (by omega)) h)
        refine lv_aload_n hF.1 hF.2.1 d_M_forget_61 rfl (lv_at hl 2 rfl) ?_
        refine gf_M_16 hF hZ (104) (by omega) q1 rfl d_M_forget_62 ?_
        refine lv_iload_n hF.1 hF.2.1 d_M_forget_65 rfl (lv_at hl 1 rfl) ?_
        refine lv_aload_n hF.1 hF.2.1 d_M_forget_66 rfl (lv_at hl 2 rfl) ?_
        refine gf_M_16 hF hZ (104) (by omega) q1 rfl d_M_forget_67 ?_
        refine lv_aload_n hF.1 hF.2.1 d_M_forget_70 rfl (lv_at hl 2 rfl) ?_
        refine gf_M_37 hF hZ (104) (by omega) q1 rfl d_M_forget_71 ?_
        refine z_iald hF hZ (107) (by omega) q7 (mw.length - (1)) (by omega) (by omega) d_M_forget_74 ?_
        refine z_top (y := (nI (x.1.length))) xs ?_
        refine z_iast hF hZ (107) (by omega) q7 (w) (by omega) (by omega) d_M_forget_75 (fun H locs hZ => ?_)
        obtain ⟨ze10, hn11⟩ : ∃ z, z = va_up en1 (107) (.inl (zI G, 24, .inl (upd (fs) (w) (nI (x.1.length))))) := ⟨_, rfl⟩
        have hZ : zH G ad ze10 N s H locs := hZ.to hn11.symm
        have ff12 : ze10 (104) = .inr (kM, [.ref (ad (105)), .int (nI (T.length)), .ref (ad (106)), .ref (ad (107)), .ref (ad (108)), .int (nI (mw.length - (1))), .ref (ad (109)), .ref (ad (110))]) := by rw [hn11, va_up_ne _ _ (by omega)]; exact q1
        have ff13 : ze10 (105) = .inl (zI G, 10, .inl (ft)) := by rw [hn11, va_up_ne _ _ (by omega)]; exact q4
        have ff14 : ze10 (106) = .inl (zI G, 192, .inl (fl1)) := by rw [hn11, va_up_ne _ _ (by omega)]; exact h6
        have ff15 : ze10 (108) = .inl (zI G, 24, .inl (fc)) := by rw [hn11, va_up_ne _ _ (by omega)]; exact q8
        have ff16 : ze10 (109) = .inl (zI G, 99, .inl (fr)) := by rw [hn11, va_up_ne _ _ (by omega)]; exact q10
        have ff17 : ze10 (110) = .inl (zJ G, 252, .inr (.inl (fj))) := by rw [hn11, va_up_ne _ _ (by omega)]; exact q11
        have ff18 : ze10 (107) = .inl (zI G, 24, .inl (upd (fs) (w) (nI (x.1.length)))) := by rw [hn11]; exact va_up_self _ _ _
        refine lv_aload_n hF.1 hF.2.1 d_M_forget_76 rfl (lv_at hl 2 rfl) ?_
        refine gf_M_19 hF hZ (104) (by omega) ff12 rfl d_M_forget_77 ?_
        refine lv_iload_n hF.1 hF.2.1 d_M_forget_80 rfl (lv_at hl 1 rfl) ?_
        refine lv_aload_n hF.1 hF.2.1 d_M_forget_81 rfl (lv_at hl 2 rfl) ?_
        refine gf_M_19 hF hZ (104) (by omega) ff12 rfl d_M_forget_82 ?_
        refine lv_aload_n hF.1 hF.2.1 d_M_forget_85 rfl (lv_at hl 2 rfl) ?_
        refine gf_M_37 hF hZ (104) (by omega) ff12 rfl d_M_forget_86 ?_
        refine z_iald hF hZ (108) (by omega) ff15 (mw.length - (1)) (by omega) (by omega) d_M_forget_89 ?_
        refine z_top (y := (nI (x.2))) xc ?_
        refine z_iast hF hZ (108) (by omega) ff15 (w) (by omega) (by omega) d_M_forget_90 (fun H locs hZ => ?_)
        obtain ⟨ze19, hn20⟩ : ∃ z, z = va_up ze10 (108) (.inl (zI G, 24, .inl (upd (fc) (w) (nI (x.2))))) := ⟨_, rfl⟩
        have hZ : zH G ad ze19 N s H locs := hZ.to hn20.symm
        have ff21 : ze19 (104) = .inr (kM, [.ref (ad (105)), .int (nI (T.length)), .ref (ad (106)), .ref (ad (107)), .ref (ad (108)), .int (nI (mw.length - (1))), .ref (ad (109)), .ref (ad (110))]) := by rw [hn20, va_up_ne _ _ (by omega)]; exact ff12
        have ff22 : ze19 (105) = .inl (zI G, 10, .inl (ft)) := by rw [hn20, va_up_ne _ _ (by omega)]; exact ff13
        have ff23 : ze19 (106) = .inl (zI G, 192, .inl (fl1)) := by rw [hn20, va_up_ne _ _ (by omega)]; exact ff14
        have ff24 : ze19 (109) = .inl (zI G, 99, .inl (fr)) := by rw [hn20, va_up_ne _ _ (by omega)]; exact ff16
        have ff25 : ze19 (110) = .inl (zJ G, 252, .inr (.inl (fj))) := by rw [hn20, va_up_ne _ _ (by omega)]; exact ff17
        have ff26 : ze19 (107) = .inl (zI G, 24, .inl (upd (fs) (w) (nI (x.1.length)))) := by rw [hn20, va_up_ne _ _ (by omega)]; exact ff18
        have ff27 : ze19 (108) = .inl (zI G, 24, .inl (upd (fc) (w) (nI (x.2)))) := by rw [hn20]; exact va_up_self _ _ _
        refine lv_iconst (v := (nI (1))) hF.1 hF.2.1 d_M_forget_91 (by decide) ?_
        refine z_iret hF hr hlocks hZ (by decide) ⟨fun r hr => by rw [hn20, va_up_ne _ _ (by omega), hn11, va_up_ne _ _ (by omega), hfr r (by omega), hn2, va_up_ne _ _ (by omega)], Or.inl ⟨w, j, u, hw, hj, hk, by decide, ⟨by rw [wd_rm_len]; exact ff21, p2, p26, by rw [wd_rm_len]; omega, ⟨ft, ff22, p5⟩, ⟨fl1, _, _, ff23, ff26, ff27, fun w2 v2 hv2 => ?_⟩, ⟨fr, ff24⟩, fj, ff25⟩⟩⟩ d_M_forget_92
        obtain ⟨r1, ⟨r2, r3⟩ | ⟨r2, r3⟩⟩ := wd_rm_at hv2
        · subst r2
          cases hx.symm.trans r3
          refine ⟨x8, x26, xt, by rw [pk_us], by rw [pk_us], fun a2 h2 => ?_⟩
          rw [ha, if_pos (by omega), show 8 * (mw.length - 1) + (8 * w2 + a2 - 8 * w2) = 8 * (mw.length - 1) + a2 by omega]
          exact xl a2 h2
        · obtain ⟨b1, b2, b3, b4, b5, b6⟩ := p9 w2 v2 r3
          refine ⟨b1, b2, b3, by rw [pk_un r2]; exact b4, by rw [pk_un r2]; exact b5, fun a2 h2 => ?_⟩
          rw [ha, if_neg (by omega)]
          exact b6 a2 h2
      | succ n ih =>
        intro i en1 fl1 H locs ls hin hfr h6 ha hl hZ
        have q1 := (hfr 104 (by omega)).trans ff9
        have q4 := (hfr 105 (by omega)).trans ff3
        have q7 := (hfr 107 (by omega)).trans ff5
        have q8 := (hfr 108 (by omega)).trans ff6
        have q10 := (hfr 109 (by omega)).trans ff7
        have q11 := (hfr 110 (by omega)).trans ff8
        refine lv_iload_n hF.1 hF.2.1 d_M_forget_24 rfl (lv_at hl 0 rfl) ?_
        refine lv_bipush (v := (nI (8))) hF.1 hF.2.1 d_M_forget_25 (by decide) ?_
        refine lv_icmp_ge (tgt := 61) hF.1 hF.2.1 d_M_forget_27 (by decide) (fun h => absurd h (nI_ge (show i < 8 by omega) (by omega))) (fun _ => ?_)
        refine lv_aload_n hF.1 hF.2.1 d_M_forget_30 rfl (lv_at hl 2 rfl) ?_
        refine gf_M_13 hF hZ (104) (by omega) q1 rfl d_M_forget_31 ?_
        refine lv_bipush (v := (nI (8))) hF.1 hF.2.1 d_M_forget_34 (by decide) ?_
        refine lv_iload_n hF.1 hF.2.1 d_M_forget_36 rfl (lv_at hl 1 rfl) ?_
        refine lv_imul hF.1 hF.2.1 d_M_forget_37 ?_
        refine z_top (pk_mul (8) (w)) ?_
        refine lv_iload_n hF.1 hF.2.1 d_M_forget_38 rfl (lv_at hl 0 rfl) ?_
        refine lv_iadd hF.1 hF.2.1 d_M_forget_39 ?_
        refine z_top (nI_add ((8) * (w)) (i)) ?_
        refine lv_aload_n hF.1 hF.2.1 d_M_forget_40 rfl (lv_at hl 2 rfl) ?_
        refine gf_M_13 hF hZ (104) (by omega) q1 rfl d_M_forget_41 ?_
        refine lv_bipush (v := (nI (8))) hF.1 hF.2.1 d_M_forget_44 (by decide) ?_
        refine lv_aload_n hF.1 hF.2.1 d_M_forget_46 rfl (lv_at hl 2 rfl) ?_
        refine gf_M_37 hF hZ (104) (by omega) q1 rfl d_M_forget_47 ?_
        refine lv_imul hF.1 hF.2.1 d_M_forget_50 ?_
        refine z_top (pk_mul (8) (mw.length - (1))) ?_
        refine lv_iload_n hF.1 hF.2.1 d_M_forget_51 rfl (lv_at hl 0 rfl) ?_
        refine lv_iadd hF.1 hF.2.1 d_M_forget_52 ?_
        refine z_top (nI_add ((8) * (mw.length - (1))) (i)) ?_
        refine z_iald hF hZ (106) (by omega) h6 ((8) * (mw.length - (1)) + i) (by omega) (by omega) d_M_forget_53 ?_
        refine z_iast hF hZ (106) (by omega) h6 ((8) * (w) + i) (by omega) (by omega) d_M_forget_54 (fun H locs hZ => ?_)
        obtain ⟨ze28, hn29⟩ : ∃ z, z = va_up en1 (106) (.inl (zI G, 192, .inl (upd (fl1) ((8) * (w) + i) (fl1 ((8) * (mw.length - (1)) + i))))) := ⟨_, rfl⟩
        have hZ : zH G ad ze28 N s H locs := hZ.to hn29.symm
        have ff30 : ze28 (104) = .inr (kM, [.ref (ad (105)), .int (nI (T.length)), .ref (ad (106)), .ref (ad (107)), .ref (ad (108)), .int (nI (mw.length - (1))), .ref (ad (109)), .ref (ad (110))]) := by rw [hn29, va_up_ne _ _ (by omega)]; exact q1
        have ff31 : ze28 (105) = .inl (zI G, 10, .inl (ft)) := by rw [hn29, va_up_ne _ _ (by omega)]; exact q4
        have ff32 : ze28 (107) = .inl (zI G, 24, .inl (fs)) := by rw [hn29, va_up_ne _ _ (by omega)]; exact q7
        have ff33 : ze28 (108) = .inl (zI G, 24, .inl (fc)) := by rw [hn29, va_up_ne _ _ (by omega)]; exact q8
        have ff34 : ze28 (109) = .inl (zI G, 99, .inl (fr)) := by rw [hn29, va_up_ne _ _ (by omega)]; exact q10
        have ff35 : ze28 (110) = .inl (zJ G, 252, .inr (.inl (fj))) := by rw [hn29, va_up_ne _ _ (by omega)]; exact q11
        have ff36 : ze28 (106) = .inl (zI G, 192, .inl (upd (fl1) ((8) * (w) + i) (fl1 ((8) * (mw.length - (1)) + i)))) := by rw [hn29]; exact va_up_self _ _ _
        refine lv_iinc (k := 0) (v := (nI (i + 1))) hF.1 hF.2.1 d_M_forget_55 hl rfl (iinc_p (i)) (by decide) rfl (fun ls hl => ?_)
        have hl : lv_has ls 4 [(3, .int (nI (i + 1))), (2, .int (nI (w))), (0, .ref (ad (104))), (1, .int (k))] := hl
        refine lv_goto (tgt := 24) hF.1 hF.2.1 d_M_forget_58 (by decide) ?_
        refine ih (i + 1) ze28 _ H locs ls (by omega) (fun r hr => by rw [hn29, va_up_ne _ _ hr]; exact hfr r hr) ff36 (fun x => ?_) hl hZ
        by_cases e : x = 8 * w + i
        · subst e
          rw [pk_us, ha, if_pos (show 8 * w ≤ 8 * w + i ∧ 8 * w + i < 8 * w + (i + 1) by omega), show 8 * w + i - 8 * w = i by omega, if_neg (by omega)]
        · rw [pk_un e, ha]
          by_cases y : 8 * w ≤ x ∧ x < 8 * w + i
          · rw [if_pos y, if_pos (by omega)]
          · rw [if_neg y, if_neg (by omega)]
    refine lv_iconst (v := (nI (0))) hF.1 hF.2.1 d_M_forget_22 (by decide) ?_
    refine lv_istore_n hF.1 hF.2.1 d_M_forget_23 rfl hl (by decide) rfl (fun ls hl => ?_)
    have hl : lv_has ls 4 [(3, .int (nI (0))), (2, .int (nI (w))), (0, .ref (ad (104))), (1, .int (k))] := hl
    exact loop 8 0 ze1 fl _ _ ls (by omega) (fun _ _ => rfl) ff4 (fun x => by rw [if_neg (by omega)]) hl hZ
  · subst hv
    refine lv_istore_n hF.1 hF.2.1 d_M_forget_5 rfl hl (by decide) rfl (fun ls hl => ?_)
    have hl : lv_has ls 4 [(2, .int ((-1))), (0, .ref (ad (104))), (1, .int (k))] := hl
    refine lv_iload_n hF.1 hF.2.1 d_M_forget_6 rfl (lv_at hl 0 rfl) ?_
    refine lv_if_ge (tgt := 12) hF.1 hF.2.1 d_M_forget_7 (by decide) (fun h => absurd h (by decide)) (fun _ => ?_)
    refine lv_iconst (v := (nI (0))) hF.1 hF.2.1 d_M_forget_10 (by decide) ?_
    exact z_iret hF hr hlocks hZ (by decide) ⟨fun r hr => rfl, Or.inr ⟨hno, by decide, rfl⟩⟩ d_M_forget_11
set_option maxHeartbeats 4000000 in
set_option maxRecDepth 100000 in
theorem c_M_letter (l : Launch) {G : zG} {ad : Nat → Nat} {en : Nat → va_E} {N : Nat} {T : List Nat} {mw : List wd_W} (hN : 111 ≤ N) (h : pM G ad en T mw) {C : List wd_W} (hpm : C.Perm mw) (hso : wd_so C) {k i : Int32} : zMi l y_M_letter b_M_letter 4 .int 5 G ad en N [.ref (ad (104)), .int (k), .int (i)] (fun v en1 => en1 = en ∧ ((∃ j u, C[j]? = some u ∧ k = nI j ∧ v = iv (atv u.1 i)) ∨ ((k < 0 ∨ nI C.length ≤ k) ∧ v = -1))) := by
  have hh := h
  obtain ⟨p1, p2, p26, p3, ⟨ft, p4, p5⟩, ⟨fl, fs, fc, p6, p7, p8, p9⟩, ⟨fr, p10⟩, fj, p11⟩ := hh
  refine z_met (by decide) (Nat.le_of_ble_eq_true rfl) ?_
  intro p e s m below meth c ls hF hr hlocks hnam hZ hl
  have hF : CallFix p m c b_M_letter 4 s ([.ref (ad (104)), .int (k), .int (i)] : List Value).toArray zz R_M := hF
  have hl : lv_has ls 4 [(0, .ref (ad (104))), (1, .int (k)), (2, .int (i))] := hl
  refine lv_aload_n hF.1 hF.2.1 d_M_letter_0 rfl (lv_at hl 0 rfl) ?_
  refine lv_iload_n hF.1 hF.2.1 d_M_letter_1 rfl (lv_at hl 1 rfl) ?_
  refine z_calli hZ (z_run cw_M_57 hF hZ (104) (c_M_place l hN h hpm hso) (by decide) (by omega) p1 rfl rfl hl.1 rfl (Nat.le_of_ble_eq_true rfl) d_M_letter_2) (fun v enq H locs hp hZ => ?_)
  obtain ⟨he, hd⟩ := hp
  have hZ := hZ.to he
  rcases hd with ⟨w, j, u, hw, hj, hk, hv⟩ | ⟨hv, hno⟩
  · subst hv
    have hwl := wd_lt_of hw
    obtain ⟨u8, u26, ut, us, uc, ul⟩ := p9 w u hw
    refine lv_istore_n hF.1 hF.2.1 d_M_letter_5 rfl hl (by decide) rfl (fun ls hl => ?_)
    have hl : lv_has ls 4 [(3, .int (nI (w))), (0, .ref (ad (104))), (1, .int (k)), (2, .int (i))] := hl
    refine lv_iload_n hF.1 hF.2.1 d_M_letter_6 rfl (lv_at hl 0 rfl) ?_
    refine lv_if_lt (tgt := 24) hF.1 hF.2.1 d_M_letter_7 (by decide) (fun h => absurd h (nI_pos (by omega))) (fun _ => ?_)
    rcases pk_ix i (n := u.1.length) (by omega) with h3 | h3 | ⟨q, hq, rfl⟩
    · refine lv_iload_n hF.1 hF.2.1 d_M_letter_10 rfl (lv_at hl 3 rfl) ?_
      refine lv_if_lt (tgt := 24) hF.1 hF.2.1 d_M_letter_11 (by decide) (fun _ => ?_) (fun h => absurd h3 h)
      refine lv_iconst (v := ((-1))) hF.1 hF.2.1 d_M_letter_24 (by decide) ?_
      refine lv_goto (tgt := 39) hF.1 hF.2.1 d_M_letter_25 (by decide) ?_
      exact z_iret hF hr hlocks hZ rfl ⟨rfl, Or.inl ⟨j, u, hj, hk, by rw [atv_neg h3]; exact iv_0.symm⟩⟩ d_M_letter_39
    · have h4 : ¬ i < 0 := fun q => by
        rw [Int32.lt_iff_toInt_lt, Int32.toInt_zero] at q
        rw [Int32.le_iff_toInt_le, nI_toInt (by omega)] at h3
        omega
      refine lv_iload_n hF.1 hF.2.1 d_M_letter_10 rfl (lv_at hl 3 rfl) ?_
      refine lv_if_lt (tgt := 24) hF.1 hF.2.1 d_M_letter_11 (by decide) (fun h => absurd h h4) (fun _ => ?_)
      refine lv_iload_n hF.1 hF.2.1 d_M_letter_14 rfl (lv_at hl 3 rfl) ?_
      refine lv_aload_n hF.1 hF.2.1 d_M_letter_15 rfl (lv_at hl 1 rfl) ?_
      refine gf_M_16 hF hZ (104) (by omega) p1 rfl d_M_letter_16 ?_
      refine lv_iload_n hF.1 hF.2.1 d_M_letter_19 rfl (lv_at hl 0 rfl) ?_
      refine z_iald hF hZ (107) (by omega) p7 (w) (by omega) (by omega) d_M_letter_20 ?_
      refine z_top (y := (nI (u.1.length))) us ?_
      refine lv_icmp_lt (tgt := 28) hF.1 hF.2.1 d_M_letter_21 (by decide) (fun h => absurd h (fun z => by
            rw [Int32.lt_iff_toInt_lt] at z; rw [Int32.le_iff_toInt_le] at h3; omega)) (fun _ => ?_)
      refine lv_iconst (v := ((-1))) hF.1 hF.2.1 d_M_letter_24 (by decide) ?_
      refine lv_goto (tgt := 39) hF.1 hF.2.1 d_M_letter_25 (by decide) ?_
      exact z_iret hF hr hlocks hZ rfl ⟨rfl, Or.inl ⟨j, u, hj, hk, by rw [atv_big (by omega) h3 (Nat.le_refl _)]; exact iv_0.symm⟩⟩ d_M_letter_39
    · refine lv_iload_n hF.1 hF.2.1 d_M_letter_10 rfl (lv_at hl 3 rfl) ?_
      refine lv_if_lt (tgt := 24) hF.1 hF.2.1 d_M_letter_11 (by decide) (fun h => absurd h (nI_pos (by omega))) (fun _ => ?_)
      refine lv_iload_n hF.1 hF.2.1 d_M_letter_14 rfl (lv_at hl 3 rfl) ?_
      refine lv_aload_n hF.1 hF.2.1 d_M_letter_15 rfl (lv_at hl 1 rfl) ?_
      refine gf_M_16 hF hZ (104) (by omega) p1 rfl d_M_letter_16 ?_
      refine lv_iload_n hF.1 hF.2.1 d_M_letter_19 rfl (lv_at hl 0 rfl) ?_
      refine z_iald hF hZ (107) (by omega) p7 (w) (by omega) (by omega) d_M_letter_20 ?_
      refine z_top (y := (nI (u.1.length))) us ?_
      refine lv_icmp_lt (tgt := 28) hF.1 hF.2.1 d_M_letter_21 (by decide) (fun _ => ?_) (fun h => absurd (nI_lt hq (by omega)) h)
      refine lv_aload_n hF.1 hF.2.1 d_M_letter_28 rfl (lv_at hl 1 rfl) ?_
      refine gf_M_13 hF hZ (104) (by omega) p1 rfl d_M_letter_29 ?_
      refine lv_bipush (v := (nI (8))) hF.1 hF.2.1 d_M_letter_32 (by decide) ?_
      refine lv_iload_n hF.1 hF.2.1 d_M_letter_34 rfl (lv_at hl 0 rfl) ?_
      refine lv_imul hF.1 hF.2.1 d_M_letter_35 ?_
      refine z_top (pk_mul (8) (w)) ?_
      refine lv_iload_n hF.1 hF.2.1 d_M_letter_36 rfl (lv_at hl 3 rfl) ?_
      refine lv_iadd hF.1 hF.2.1 d_M_letter_37 ?_
      refine z_top (nI_add ((8) * (w)) (q)) ?_
      refine z_iald hF hZ (106) (by omega) p6 ((8) * (w) + q) (by omega) (by omega) d_M_letter_38 ?_
      exact z_iret hF hr hlocks hZ rfl ⟨rfl, Or.inl ⟨j, u, hj, hk, by rw [atv_nI (by omega), wd_cd_in hq, iv_s]; exact ul q hq⟩⟩ d_M_letter_39
  · subst hv
    refine lv_istore_n hF.1 hF.2.1 d_M_letter_5 rfl hl (by decide) rfl (fun ls hl => ?_)
    have hl : lv_has ls 4 [(3, .int ((-1))), (0, .ref (ad (104))), (1, .int (k)), (2, .int (i))] := hl
    refine lv_iload_n hF.1 hF.2.1 d_M_letter_6 rfl (lv_at hl 0 rfl) ?_
    refine lv_if_lt (tgt := 24) hF.1 hF.2.1 d_M_letter_7 (by decide) (fun _ => ?_) (fun h => absurd (by decide) h)
    refine lv_iconst (v := ((-1))) hF.1 hF.2.1 d_M_letter_24 (by decide) ?_
    refine lv_goto (tgt := 39) hF.1 hF.2.1 d_M_letter_25 (by decide) ?_
    exact z_iret hF hr hlocks hZ rfl ⟨rfl, Or.inr ⟨hno, rfl⟩⟩ d_M_letter_39
set_option maxHeartbeats 4000000 in
set_option maxRecDepth 100000 in
theorem c_M_count (l : Launch) {G : zG} {ad : Nat → Nat} {en : Nat → va_E} {N : Nat} {T : List Nat} {mw : List wd_W} (hN : 111 ≤ N) (h : pM G ad en T mw) {C : List wd_W} (hpm : C.Perm mw) (hso : wd_so C) {k : Int32} : zMi l y_M_count b_M_count 3 .int 5 G ad en N [.ref (ad (104)), .int (k)] (fun v en1 => en1 = en ∧ ((∃ j u, C[j]? = some u ∧ k = nI j ∧ v = nI u.2) ∨ ((k < 0 ∨ nI C.length ≤ k) ∧ v = 0))) := by
  have hh := h
  obtain ⟨p1, p2, p26, p3, ⟨ft, p4, p5⟩, ⟨fl, fs, fc, p6, p7, p8, p9⟩, ⟨fr, p10⟩, fj, p11⟩ := hh
  refine z_met (by decide) (Nat.le_of_ble_eq_true rfl) ?_
  intro p e s m below meth c ls hF hr hlocks hnam hZ hl
  have hF : CallFix p m c b_M_count 3 s ([.ref (ad (104)), .int (k)] : List Value).toArray zz R_M := hF
  have hl : lv_has ls 3 [(0, .ref (ad (104))), (1, .int (k))] := hl
  refine lv_aload_n hF.1 hF.2.1 d_M_count_0 rfl (lv_at hl 0 rfl) ?_
  refine lv_iload_n hF.1 hF.2.1 d_M_count_1 rfl (lv_at hl 1 rfl) ?_
  refine z_calli hZ (z_run cw_M_57 hF hZ (104) (c_M_place l hN h hpm hso) (by decide) (by omega) p1 rfl rfl hl.1 rfl (Nat.le_of_ble_eq_true rfl) d_M_count_2) (fun v enq H locs hp hZ => ?_)
  obtain ⟨he, hd⟩ := hp
  have hZ := hZ.to he
  rcases hd with ⟨w, j, u, hw, hj, hk, hv⟩ | ⟨hv, hno⟩
  · subst hv
    have hwl := wd_lt_of hw
    obtain ⟨u8, u26, ut, us, uc, ul⟩ := p9 w u hw
    refine lv_istore_n hF.1 hF.2.1 d_M_count_5 rfl hl (by decide) rfl (fun ls hl => ?_)
    have hl : lv_has ls 3 [(2, .int (nI (w))), (0, .ref (ad (104))), (1, .int (k))] := hl
    refine lv_iload_n hF.1 hF.2.1 d_M_count_6 rfl (lv_at hl 0 rfl) ?_
    refine lv_if_ge (tgt := 14) hF.1 hF.2.1 d_M_count_7 (by decide) (fun _ => ?_) (fun h => absurd (nI_pos' (by omega)) h)
    refine lv_aload_n hF.1 hF.2.1 d_M_count_14 rfl (lv_at hl 1 rfl) ?_
    refine gf_M_19 hF hZ (104) (by omega) p1 rfl d_M_count_15 ?_
    refine lv_iload_n hF.1 hF.2.1 d_M_count_18 rfl (lv_at hl 0 rfl) ?_
    refine z_iald hF hZ (108) (by omega) p8 (w) (by omega) (by omega) d_M_count_19 ?_
    exact z_iret hF hr hlocks hZ rfl ⟨rfl, Or.inl ⟨j, u, hj, hk, uc⟩⟩ d_M_count_20
  · subst hv
    refine lv_istore_n hF.1 hF.2.1 d_M_count_5 rfl hl (by decide) rfl (fun ls hl => ?_)
    have hl : lv_has ls 3 [(2, .int ((-1))), (0, .ref (ad (104))), (1, .int (k))] := hl
    refine lv_iload_n hF.1 hF.2.1 d_M_count_6 rfl (lv_at hl 0 rfl) ?_
    refine lv_if_ge (tgt := 14) hF.1 hF.2.1 d_M_count_7 (by decide) (fun h => absurd h (by decide)) (fun _ => ?_)
    refine lv_iconst (v := (nI (0))) hF.1 hF.2.1 d_M_count_10 (by decide) ?_
    refine lv_goto (tgt := 20) hF.1 hF.2.1 d_M_count_11 (by decide) ?_
    exact z_iret hF hr hlocks hZ rfl ⟨rfl, Or.inr ⟨hno, by decide⟩⟩ d_M_count_20
set_option maxHeartbeats 4000000 in
set_option maxRecDepth 100000 in
theorem c_M_rank (l : Launch) {G : zG} {ad : Nat → Nat} {en : Nat → va_E} {N : Nat} {T : List Nat} {mw : List wd_W} (hN : 111 ≤ N) (h : pM G ad en T mw) {C : List wd_W} (hpm : C.Perm mw) (hso : wd_so C) : zMi l y_M_rank b_M_rank 2 .int 4 G ad en N [.ref (ad (104))] (fun v en1 => en1 = en ∧ ((∃ k u, C[k]? = some u ∧ u.1 = T ∧ v = nI k) ∨ (v = -1 ∧ ∀ u ∈ C, u.1 ≠ T))) := by
  have hh := h
  obtain ⟨p1, p2, p26, p3, ⟨ft, p4, p5⟩, ⟨fl, fs, fc, p6, p7, p8, p9⟩, ⟨fr, p10⟩, fj, p11⟩ := hh
  refine z_met (by decide) (Nat.le_of_ble_eq_true rfl) ?_
  intro p e s m below meth c ls hF hr hlocks hnam hZ hl
  have hF : CallFix p m c b_M_rank 2 s ([.ref (ad (104))] : List Value).toArray zz R_M := hF
  have hl : lv_has ls 2 [(0, .ref (ad (104)))] := hl
  refine lv_aload_n hF.1 hF.2.1 d_M_rank_0 rfl (lv_at hl 0 rfl) ?_
  refine z_calli hZ (z_run cw_M_53 hF hZ (104) (c_M_same l hN h) (by decide) (by omega) p1 rfl rfl hl.1 rfl (Nat.le_of_ble_eq_true rfl) d_M_rank_1) (fun v enq H locs hp hZ => ?_)
  obtain ⟨he, hd⟩ := hp
  have hZ := hZ.to he
  rcases hd with ⟨w, u, hw, hu, hv⟩ | ⟨hv, hno⟩
  · subst hv
    have hwl := wd_lt_of hw
    obtain ⟨j, hj, hrk⟩ := wd_rank2 hpm hso hw
    refine lv_istore_n hF.1 hF.2.1 d_M_rank_4 rfl hl (by decide) rfl (fun ls hl => ?_)
    have hl : lv_has ls 2 [(1, .int (nI (w))), (0, .ref (ad (104)))] := hl
    refine lv_iload_n hF.1 hF.2.1 d_M_rank_5 rfl (lv_at hl 0 rfl) ?_
    refine lv_if_ge (tgt := 13) hF.1 hF.2.1 d_M_rank_6 (by decide) (fun _ => ?_) (fun h => absurd (nI_pos' (by omega)) h)
    refine lv_aload_n hF.1 hF.2.1 d_M_rank_13 rfl (lv_at hl 1 rfl) ?_
    refine lv_iload_n hF.1 hF.2.1 d_M_rank_14 rfl (lv_at hl 0 rfl) ?_
    refine z_calli hZ (z_run cw_M_44 hF hZ (104) (c_M_rankOf l hN h hw) (by decide) (by omega) p1 rfl rfl hl.1 rfl (Nat.le_of_ble_eq_true rfl) d_M_rank_15) (fun v enq H locs hp hZ => ?_)
    obtain ⟨he, hv⟩ := hp
    subst hv
    have hZ := hZ.to he
    exact z_iret hF hr hlocks hZ rfl ⟨rfl, Or.inl ⟨j, u, hj, hu, by rw [hrk]⟩⟩ d_M_rank_18
  · subst hv
    refine lv_istore_n hF.1 hF.2.1 d_M_rank_4 rfl hl (by decide) rfl (fun ls hl => ?_)
    have hl : lv_has ls 2 [(1, .int ((-1))), (0, .ref (ad (104)))] := hl
    refine lv_iload_n hF.1 hF.2.1 d_M_rank_5 rfl (lv_at hl 0 rfl) ?_
    refine lv_if_ge (tgt := 13) hF.1 hF.2.1 d_M_rank_6 (by decide) (fun h => absurd h (by decide)) (fun _ => ?_)
    refine lv_iconst (v := ((-1))) hF.1 hF.2.1 d_M_rank_9 (by decide) ?_
    refine lv_goto (tgt := 18) hF.1 hF.2.1 d_M_rank_10 (by decide) ?_
    exact z_iret hF hr hlocks hZ rfl ⟨rfl, Or.inr ⟨rfl, fun u hu => hno u (hpm.mem_iff.mp hu)⟩⟩ d_M_rank_18
