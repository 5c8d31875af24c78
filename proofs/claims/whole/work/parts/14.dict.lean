theorem wd_cnt_s {α : Type} {l : List α} {i : Nat} {w : α} (p : α → Bool) (h : l[i]? = some w) : (l.take (i + 1)).countP p = (l.take i).countP p + if p w then 1 else 0 := by
  rw [List.take_succ, h, List.countP_append]
  show _ + List.countP p [w] = _
  rw [List.countP_singleton]
set_option maxHeartbeats 4000000 in
set_option maxRecDepth 100000 in
theorem c_D_has (l : Launch) {G : zG} {ad : Nat → Nat} {en : Nat → va_E} {N : Nat} {sg : Nat → Nat} {C : List wd_W} (hN : 77 ≤ N) (h : pD G ad en sg C) {j : Nat} (hj : j < C.length) : zMi l y_D_has b_D_has 2 .boolean 1 G ad en N [.ref (ad (3)), .int (nI (j))] (fun v en1 => en1 = en ∧ v = 1) := by
  have hh := h
  obtain ⟨d1, d2, ⟨g0, d3, d3g⟩, d4, d5, d6, d7⟩ := hh
  refine z_met (by decide) (Nat.le_of_ble_eq_true rfl) ?_
  intro p e s m below meth c ls hF hr hlocks hnam hZ hl
  have hF : CallFix p m c b_D_has 2 s ([.ref (ad (3)), .int (nI (j))] : List Value).toArray zz R_D := hF
  have hl : lv_has ls 2 [(0, .ref (ad (3))), (1, .int (nI (j)))] := hl
  refine lv_iload_n hF.1 hF.2.1 d_D_has_0 rfl (lv_at hl 1 rfl) ?_
  refine lv_if_lt (tgt := 16) hF.1 hF.2.1 d_D_has_1 (by decide) (fun h => absurd h (nI_pos (by omega))) (fun _ => ?_)
  refine lv_iload_n hF.1 hF.2.1 d_D_has_4 rfl (lv_at hl 1 rfl) ?_
  refine lv_aload_n hF.1 hF.2.1 d_D_has_5 rfl (lv_at hl 0 rfl) ?_
  refine gf_D_18 hF hZ (3) (by omega) d1 rfl d_D_has_6 ?_
  refine lv_icmp_ge (tgt := 16) hF.1 hF.2.1 d_D_has_9 (by decide) (fun h => absurd h (nI_ge hj (by omega))) (fun _ => ?_)
  refine lv_iconst (v := (nI (1))) hF.1 hF.2.1 d_D_has_12 (by decide) ?_
  refine lv_goto (tgt := 17) hF.1 hF.2.1 d_D_has_13 (by decide) ?_
  exact z_iret hF hr hlocks hZ (by decide) ⟨rfl, by decide⟩ d_D_has_17
set_option maxHeartbeats 4000000 in
set_option maxRecDepth 100000 in
theorem c_D_hasNo (l : Launch) {G : zG} {ad : Nat → Nat} {en : Nat → va_E} {N : Nat} {sg : Nat → Nat} {C : List wd_W} (hN : 77 ≤ N) (h : pD G ad en sg C) {k : Int32} (hno : k < 0 ∨ nI C.length ≤ k) : zMi l y_D_has b_D_has 2 .boolean 1 G ad en N [.ref (ad (3)), .int (k)] (fun v en1 => en1 = en ∧ v = 0) := by
  have hh := h
  obtain ⟨d1, d2, ⟨g0, d3, d3g⟩, d4, d5, d6, d7⟩ := hh
  refine z_met (by decide) (Nat.le_of_ble_eq_true rfl) ?_
  intro p e s m below meth c ls hF hr hlocks hnam hZ hl
  have hF : CallFix p m c b_D_has 2 s ([.ref (ad (3)), .int (k)] : List Value).toArray zz R_D := hF
  have hl : lv_has ls 2 [(0, .ref (ad (3))), (1, .int (k))] := hl
  refine lv_iload_n hF.1 hF.2.1 d_D_has_0 rfl (lv_at hl 1 rfl) ?_
  refine lv_if_lt (tgt := 16) hF.1 hF.2.1 d_D_has_1 (by decide) (fun q1 => ?_) (fun q1 => ?_)
  · refine lv_iconst (v := (nI (0))) hF.1 hF.2.1 d_D_has_16 (by decide) ?_
    exact z_iret hF hr hlocks hZ (by decide) ⟨rfl, by decide⟩ d_D_has_17
  · refine lv_iload_n hF.1 hF.2.1 d_D_has_4 rfl (lv_at hl 1 rfl) ?_
    refine lv_aload_n hF.1 hF.2.1 d_D_has_5 rfl (lv_at hl 0 rfl) ?_
    refine gf_D_18 hF hZ (3) (by omega) d1 rfl d_D_has_6 ?_
    refine lv_icmp_ge (tgt := 16) hF.1 hF.2.1 d_D_has_9 (by decide) (fun _ => ?_) (fun h => absurd (hno.resolve_left q1) h)
    refine lv_iconst (v := (nI (0))) hF.1 hF.2.1 d_D_has_16 (by decide) ?_
    exact z_iret hF hr hlocks hZ (by decide) ⟨rfl, by decide⟩ d_D_has_17
set_option maxHeartbeats 4000000 in
set_option maxRecDepth 100000 in
theorem c_D_lettersOf (l : Launch) {G : zG} {ad : Nat → Nat} {en : Nat → va_E} {N : Nat} {sg : Nat → Nat} {C : List wd_W} (hN : 77 ≤ N) (h : pD G ad en sg C) {j : Nat} (hj : j < C.length) : zMr l y_D_lettersOf b_D_lettersOf 2 (.object "SpellDesk$Letters") 1 G ad en N [.ref (ad (3)), .int (nI (j))] (fun v en1 => en1 = en ∧ v = ad (6 + 3 * sg j)) := by
  have hh := h
  obtain ⟨d1, d2, ⟨g0, d3, d3g⟩, d4, d5, d6, d7⟩ := hh
  obtain ⟨w, hw⟩ := wd_some hj
  have hw := d7 j w hw
  refine z_met (by decide) (Nat.le_of_ble_eq_true rfl) ?_
  intro p e s m below meth c ls hF hr hlocks hnam hZ hl
  have hF : CallFix p m c b_D_lettersOf 2 s ([.ref (ad (3)), .int (nI (j))] : List Value).toArray zz R_D := hF
  have hl : lv_has ls 2 [(0, .ref (ad (3))), (1, .int (nI (j)))] := hl
  refine lv_aload_n hF.1 hF.2.1 d_D_lettersOf_0 rfl (lv_at hl 0 rfl) ?_
  refine gf_D_11 hF hZ (3) (by omega) d1 rfl d_D_lettersOf_1 ?_
  refine lv_iload_n hF.1 hF.2.1 d_D_lettersOf_4 rfl (lv_at hl 1 rfl) ?_
  refine z_oald hF hZ (4) (by omega) d3 (j) (by omega) (by omega) (d3g (j) (by omega)) d_D_lettersOf_5 ?_
  refine gf_D_22 hF hZ (5 + 3 * sg (j)) (by have := d4 j (by omega); omega) hw.1 rfl d_D_lettersOf_6 ?_
  exact z_aret hF hr (Or.inl ⟨_, rfl⟩) hlocks hZ ⟨rfl, rfl⟩ d_D_lettersOf_9
set_option maxHeartbeats 4000000 in
set_option maxRecDepth 100000 in
theorem c_D_timesOf (l : Launch) {G : zG} {ad : Nat → Nat} {en : Nat → va_E} {N : Nat} {sg : Nat → Nat} {C : List wd_W} (hN : 77 ≤ N) (h : pD G ad en sg C) {j : Nat} {w : wd_W} (hj : C[j]? = some w) : zMi l y_D_timesOf b_D_timesOf 2 .int 1 G ad en N [.ref (ad (3)), .int (nI (j))] (fun v en1 => en1 = en ∧ v = nI w.2) := by
  have hh := h
  obtain ⟨d1, d2, ⟨g0, d3, d3g⟩, d4, d5, d6, d7⟩ := hh
  have hjl := wd_lt_of hj
  have hw := d7 j w hj
  refine z_met (by decide) (Nat.le_of_ble_eq_true rfl) ?_
  intro p e s m below meth c ls hF hr hlocks hnam hZ hl
  have hF : CallFix p m c b_D_timesOf 2 s ([.ref (ad (3)), .int (nI (j))] : List Value).toArray zz R_D := hF
  have hl : lv_has ls 2 [(0, .ref (ad (3))), (1, .int (nI (j)))] := hl
  refine lv_aload_n hF.1 hF.2.1 d_D_timesOf_0 rfl (lv_at hl 0 rfl) ?_
  refine gf_D_11 hF hZ (3) (by omega) d1 rfl d_D_timesOf_1 ?_
  refine lv_iload_n hF.1 hF.2.1 d_D_timesOf_4 rfl (lv_at hl 1 rfl) ?_
  refine z_oald hF hZ (4) (by omega) d3 (j) (by omega) (by omega) (d3g (j) (by omega)) d_D_timesOf_5 ?_
  refine gf_D_26 hF hZ (5 + 3 * sg (j)) (by have := d4 j (by omega); omega) hw.1 rfl d_D_timesOf_6 ?_
  exact z_iret hF hr hlocks hZ rfl ⟨rfl, rfl⟩ d_D_timesOf_9
set_option maxHeartbeats 4000000 in
set_option maxRecDepth 100000 in
theorem c_D_addTimes (l : Launch) {G : zG} {ad : Nat → Nat} {en : Nat → va_E} {N : Nat} {sg : Nat → Nat} {C : List wd_W} (hN : 77 ≤ N) (h : pD G ad en sg C) {j t : Nat} {w : wd_W} (hj : C[j]? = some w) (ht : t ≤ 1000000) : zMv l y_D_addTimes b_D_addTimes 3 1 G ad en N [.ref (ad (3)), .int (nI (j)), .int (nI (t))] (fun en1 => pD G ad en1 sg (C.set j (w.1, min 1000000 (w.2 + t))) ∧ ∀ r, r < 3 ∨ 77 ≤ r → en1 r = en r) := by
  have hh := h
  obtain ⟨d1, d2, ⟨g0, d3, d3g⟩, d4, d5, d6, d7⟩ := hh
  have hjl := wd_lt_of hj
  have hw := d7 j w hj
  have hs := d4 j (by omega)
  have hw2 := hw.2.2
  refine z_met (by decide) (Nat.le_of_ble_eq_true rfl) ?_
  intro p e s m below meth c ls hF hr hlocks hnam hZ hl
  have hF : CallFix p m c b_D_addTimes 3 s ([.ref (ad (3)), .int (nI (j)), .int (nI (t))] : List Value).toArray zz R_D := hF
  have hl : lv_has ls 3 [(0, .ref (ad (3))), (1, .int (nI (j))), (2, .int (nI (t)))] := hl
  refine lv_aload_n hF.1 hF.2.1 d_D_addTimes_0 rfl (lv_at hl 0 rfl) ?_
  refine gf_D_11 hF hZ (3) (by omega) d1 rfl d_D_addTimes_1 ?_
  refine lv_iload_n hF.1 hF.2.1 d_D_addTimes_4 rfl (lv_at hl 1 rfl) ?_
  refine z_oald hF hZ (4) (by omega) d3 (j) (by omega) (by omega) (d3g (j) (by omega)) d_D_addTimes_5 ?_
  refine lv_ldc hF.1 hF.2.1 hF.2.2.2.1 (hF.2.2.2.2 _ cn_D_29) d_D_addTimes_6 ?_
  refine z_top (show (1000000 : Int32) = nI 1000000 by decide) ?_
  refine lv_aload_n hF.1 hF.2.1 d_D_addTimes_8 rfl (lv_at hl 0 rfl) ?_
  refine gf_D_11 hF hZ (3) (by omega) d1 rfl d_D_addTimes_9 ?_
  refine lv_iload_n hF.1 hF.2.1 d_D_addTimes_12 rfl (lv_at hl 1 rfl) ?_
  refine z_oald hF hZ (4) (by omega) d3 (j) (by omega) (by omega) (d3g (j) (by omega)) d_D_addTimes_13 ?_
  refine gf_D_26 hF hZ (5 + 3 * sg (j)) (by have := d4 j (by omega); omega) hw.1 rfl d_D_addTimes_14 ?_
  refine lv_iload_n hF.1 hF.2.1 d_D_addTimes_17 rfl (lv_at hl 2 rfl) ?_
  refine lv_iadd hF.1 hF.2.1 d_D_addTimes_18 ?_
  refine z_top (nI_add (w.2) (t)) ?_
  refine va_mmin hF.1 hF.2.1 (hF.2.2.1.trans hl.1.symm) hF.2.2.2.1 (hF.2.2.2.2 _ ml_D_30) (hF.2.2.2.2 _ sm_Math_min) (hF.2.2.2.2 _ in_Math) (hF.2.2.2.2 _ cd_Math_min) (Nat.le_of_ble_eq_true rfl) (Nat.le_of_ble_eq_true rfl) (Nat.le_of_ble_eq_true rfl) (Nat.le_of_ble_eq_true rfl) d_D_addTimes_19 ?_
  refine z_top (show (if nI (w.2 + t) < nI 1000000 then nI (w.2 + t) else nI 1000000) = nI (min 1000000 (w.2 + t)) by
      by_cases q : w.2 + t < 1000000
      · rw [if_pos (nI_lt q (by omega)), Nat.min_eq_right (by omega)]
      · rw [if_neg (nI_nlt (by omega) (by omega)), Nat.min_eq_left (by omega)]) ?_
  refine pf_D_26 hF hZ (5 + 3 * sg (j)) (by have := d4 j (by omega); omega) hw.1 (Nat.le_of_ble_eq_true rfl) d_D_addTimes_22 (fun H locs hZ => ?_)
  obtain ⟨ze1, hn2⟩ : ∃ z, z = va_up en (5 + 3 * sg (j)) (.inr (kW, [.ref (ad (6 + 3 * sg (j))), .int (nI (min 1000000 (w.2 + t)))])) := ⟨_, rfl⟩
  have hZ : zH G ad ze1 N s H locs := hZ.to hn2.symm
  have ff3 : ze1 (3) = .inr (kD, [.ref (ad (4)), .int (nI (C.length))]) := by rw [hn2, va_up_ne _ _ (by omega)]; exact d1
  have ff4 : ze1 (4) = .inl (zO G, 24, z_refs g0) := by rw [hn2, va_up_ne _ _ (by omega)]; exact d3
  have ff5 : ze1 (5 + 3 * sg (j)) = .inr (kW, [.ref (ad (6 + 3 * sg (j))), .int (nI (min 1000000 (w.2 + t)))]) := by rw [hn2]; exact va_up_self _ _ _
  exact z_vret hF hr hlocks hZ ⟨by subst ze1; exact h.times hj (by omega), fun r q => by subst ze1; rw [va_up_ne _ _ (by omega)]⟩ d_D_addTimes_25
set_option maxHeartbeats 4000000 in
set_option maxRecDepth 100000 in
theorem c_D_isPreferred (l : Launch) {G : zG} {ad : Nat → Nat} {en : Nat → va_E} {N : Nat} {sg : Nat → Nat} {C : List wd_W} (hN : 77 ≤ N) (h : pD G ad en sg C) {i j : Nat} {u w : wd_W} (hi : C[i]? = some u) (hj : C[j]? = some w) : zMi l y_D_isPreferred b_D_isPreferred 3 .boolean 1 G ad en N [.ref (ad (3)), .int (nI (i)), .int (nI (j))] (fun v en1 => en1 = en ∧ v = bI (if u.2 = w.2 then decide (i < j) else decide (w.2 < u.2))) := by
  have hh := h
  obtain ⟨d1, d2, ⟨g0, d3, d3g⟩, d4, d5, d6, d7⟩ := hh
  have hil := wd_lt_of hi
  have hjl := wd_lt_of hj
  have hu := d7 i u hi
  have hw := d7 j w hj
  have hu2 := hu.2.2
  have hw2 := hw.2.2
  refine z_met (by decide) (Nat.le_of_ble_eq_true rfl) ?_
  intro p e s m below meth c ls hF hr hlocks hnam hZ hl
  have hF : CallFix p m c b_D_isPreferred 3 s ([.ref (ad (3)), .int (nI (i)), .int (nI (j))] : List Value).toArray zz R_D := hF
  have hl : lv_has ls 3 [(0, .ref (ad (3))), (1, .int (nI (i))), (2, .int (nI (j)))] := hl
  refine lv_aload_n hF.1 hF.2.1 d_D_isPreferred_0 rfl (lv_at hl 0 rfl) ?_
  refine gf_D_11 hF hZ (3) (by omega) d1 rfl d_D_isPreferred_1 ?_
  refine lv_iload_n hF.1 hF.2.1 d_D_isPreferred_4 rfl (lv_at hl 1 rfl) ?_
  refine z_oald hF hZ (4) (by omega) d3 (i) (by omega) (by omega) (d3g (i) (by omega)) d_D_isPreferred_5 ?_
  refine gf_D_26 hF hZ (5 + 3 * sg (i)) (by have := d4 i (by omega); omega) hu.1 rfl d_D_isPreferred_6 ?_
  refine lv_aload_n hF.1 hF.2.1 d_D_isPreferred_9 rfl (lv_at hl 0 rfl) ?_
  refine gf_D_11 hF hZ (3) (by omega) d1 rfl d_D_isPreferred_10 ?_
  refine lv_iload_n hF.1 hF.2.1 d_D_isPreferred_13 rfl (lv_at hl 2 rfl) ?_
  refine z_oald hF hZ (4) (by omega) d3 (j) (by omega) (by omega) (d3g (j) (by omega)) d_D_isPreferred_14 ?_
  refine gf_D_26 hF hZ (5 + 3 * sg (j)) (by have := d4 j (by omega); omega) hw.1 rfl d_D_isPreferred_15 ?_
  refine lv_icmp_eq (tgt := 48) hF.1 hF.2.1 d_D_isPreferred_18 (by decide) (fun q => ?_) (fun q => ?_)
  · have q := (nI_eq (by omega) (by omega)).mp q
    refine lv_iload_n hF.1 hF.2.1 d_D_isPreferred_48 rfl (lv_at hl 1 rfl) ?_
    refine lv_iload_n hF.1 hF.2.1 d_D_isPreferred_49 rfl (lv_at hl 2 rfl) ?_
    refine lv_icmp_ge (tgt := 57) hF.1 hF.2.1 d_D_isPreferred_50 (by decide) (fun z => ?_) (fun z => ?_)
    · have z := (nI_leI (by omega) (by omega)).mp z
      refine lv_iconst (v := (nI (0))) hF.1 hF.2.1 d_D_isPreferred_57 (by decide) ?_
      exact z_iret hF hr hlocks hZ (by decide) ⟨rfl, by rw [if_pos q, decide_eq_false (by omega)]; rfl⟩ d_D_isPreferred_58
    · have z : i < j := Nat.lt_of_not_le (fun y => z (nI_le y (by omega)))
      refine lv_iconst (v := (nI (1))) hF.1 hF.2.1 d_D_isPreferred_53 (by decide) ?_
      refine lv_goto (tgt := 58) hF.1 hF.2.1 d_D_isPreferred_54 (by decide) ?_
      exact z_iret hF hr hlocks hZ (by decide) ⟨rfl, by rw [if_pos q, decide_eq_true z]; rfl⟩ d_D_isPreferred_58
  · have q : ¬ u.2 = w.2 := fun y => q (by rw [y])
    refine lv_aload_n hF.1 hF.2.1 d_D_isPreferred_21 rfl (lv_at hl 0 rfl) ?_
    refine gf_D_11 hF hZ (3) (by omega) d1 rfl d_D_isPreferred_22 ?_
    refine lv_iload_n hF.1 hF.2.1 d_D_isPreferred_25 rfl (lv_at hl 1 rfl) ?_
    refine z_oald hF hZ (4) (by omega) d3 (i) (by omega) (by omega) (d3g (i) (by omega)) d_D_isPreferred_26 ?_
    refine gf_D_26 hF hZ (5 + 3 * sg (i)) (by have := d4 i (by omega); omega) hu.1 rfl d_D_isPreferred_27 ?_
    refine lv_aload_n hF.1 hF.2.1 d_D_isPreferred_30 rfl (lv_at hl 0 rfl) ?_
    refine gf_D_11 hF hZ (3) (by omega) d1 rfl d_D_isPreferred_31 ?_
    refine lv_iload_n hF.1 hF.2.1 d_D_isPreferred_34 rfl (lv_at hl 2 rfl) ?_
    refine z_oald hF hZ (4) (by omega) d3 (j) (by omega) (by omega) (d3g (j) (by omega)) d_D_isPreferred_35 ?_
    refine gf_D_26 hF hZ (5 + 3 * sg (j)) (by have := d4 j (by omega); omega) hw.1 rfl d_D_isPreferred_36 ?_
    refine lv_icmp_le (tgt := 46) hF.1 hF.2.1 d_D_isPreferred_39 (by decide) (fun z => ?_) (fun z => ?_)
    · have z := (nI_leI (by omega) (by omega)).mp z
      refine lv_iconst (v := (nI (0))) hF.1 hF.2.1 d_D_isPreferred_46 (by decide) ?_
      exact z_iret hF hr hlocks hZ (by decide) ⟨rfl, by rw [if_neg q, decide_eq_false (by omega)]; rfl⟩ d_D_isPreferred_47
    · have z : w.2 < u.2 := Nat.lt_of_not_le (fun y => z (nI_le y (by omega)))
      refine lv_iconst (v := (nI (1))) hF.1 hF.2.1 d_D_isPreferred_42 (by decide) ?_
      refine lv_goto (tgt := 47) hF.1 hF.2.1 d_D_isPreferred_43 (by decide) ?_
      exact z_iret hF hr hlocks hZ (by decide) ⟨rfl, by rw [if_neg q, decide_eq_true z]; rfl⟩ d_D_isPreferred_47
set_option maxHeartbeats 4000000 in
set_option maxRecDepth 100000 in
theorem c_D_find (l : Launch) {G : zG} {ad : Nat → Nat} {en : Nat → va_E} {N : Nat} {sg : Nat → Nat} {C : List wd_W} (hN : 77 ≤ N) (h : pD G ad en sg C) {k2 ka2 cap2 : Nat} {ys : List Nat} (hk2 : k2 < N) (hka2 : ka2 < N) (hne2 : k2 ≠ ka2) (hcap2 : cap2 < 2 ^ 31) (g : pL G ad en k2 ka2 cap2 ys) : zMi l y_D_find b_D_find 3 .int 4 G ad en N [.ref (ad (3)), .ref (ad (k2))] (fun v en1 => en1 = en ∧ ((∃ k w, C[k]? = some w ∧ w.1 = ys ∧ v = nI k) ∨ (v = -1 ∧ ∀ w ∈ C, w.1 ≠ ys))) := by
  have hh := h
  obtain ⟨d1, d2, ⟨g0, d3, d3g⟩, d4, d5, d6, d7⟩ := hh
  have gg := g
  obtain ⟨e3, g1, g26, f2, e4, g2⟩ := gg
  refine z_met (by decide) (Nat.le_of_ble_eq_true rfl) ?_
  intro p e s m below meth c ls hF hr hlocks hnam hZ hl
  have hF : CallFix p m c b_D_find 3 s ([.ref (ad (3)), .ref (ad (k2))] : List Value).toArray zz R_D := hF
  have hl : lv_has ls 3 [(0, .ref (ad (3))), (1, .ref (ad (k2)))] := hl
  have loop : ∀ (n i : Nat) (H : Heap) (locs : List Loc) (ls : Array Slot), (i + n = C.length) → (∀ k w, k < i → C[k]? = some w → w.1 ≠ ys) → lv_has ls 3 [(2, .int (nI (i))), (0, .ref (ad (3))), (1, .ref (ad (k2)))] → zH G ad en N s H locs → W p l e (zR 4) s m ([.ref (ad (3)), .ref (ad (k2))] : List Value).toArray below meth c H locs 0 0 (MQ below (zQi G ad N (fun v en1 => en1 = en ∧ ((∃ k w, C[k]? = some w ∧ w.1 = ys ∧ v = nI k) ∨ (v = -1 ∧ ∀ w ∈ C, w.1 ≠ ys)))) ([.ref (ad (3)), .ref (ad (k2))] : List Value).toArray s 0 0 (zA G)) (F0 m 2 ls []) := by
    intro n
    induction n with
    | zero =>
      intro i H locs ls hin hp hl hZ
      refine lv_iload_n hF.1 hF.2.1 d_D_find_2 rfl (lv_at hl 0 rfl) ?_
      refine lv_aload_n hF.1 hF.2.1 d_D_find_3 rfl (lv_at hl 1 rfl) ?_
      refine gf_D_18 hF hZ (3) (by omega) d1 rfl d_D_find_4 ?_
      refine lv_icmp_ge (tgt := 34) hF.1 hF.2.1 d_D_find_7 (by decide) (fun _ => ?_) (fun h => absurd (nI_le (by omega) (by omega)) h)
      refine lv_iconst (v := ((-1))) hF.1 hF.2.1 d_D_find_34 (by decide) ?_
      refine z_iret hF hr hlocks hZ rfl ⟨rfl, Or.inr ⟨rfl, fun w hw => ?_⟩⟩ d_D_find_35
      obtain ⟨k, hk⟩ := List.getElem?_of_mem hw
      exact hp k w (by have := wd_lt_of hk; omega) hk
    | succ n ih =>
      intro i H locs ls hin hp hl hZ
      obtain ⟨w, hwi⟩ := wd_some (show i < C.length by omega)
      have hw := d7 i w hwi
      have hs := d4 i (by omega)
      have hwL := hw.2.1
      obtain ⟨e5, l1, l26, f5, e6, l2⟩ := hwL
      refine lv_iload_n hF.1 hF.2.1 d_D_find_2 rfl (lv_at hl 0 rfl) ?_
      refine lv_aload_n hF.1 hF.2.1 d_D_find_3 rfl (lv_at hl 1 rfl) ?_
      refine gf_D_18 hF hZ (3) (by omega) d1 rfl d_D_find_4 ?_
      refine lv_icmp_ge (tgt := 34) hF.1 hF.2.1 d_D_find_7 (by decide) (fun h => absurd h (nI_ge (show i < C.length by omega) (by omega))) (fun _ => ?_)
      refine lv_aload_n hF.1 hF.2.1 d_D_find_10 rfl (lv_at hl 1 rfl) ?_
      refine gf_D_11 hF hZ (3) (by omega) d1 rfl d_D_find_11 ?_
      refine lv_iload_n hF.1 hF.2.1 d_D_find_14 rfl (lv_at hl 0 rfl) ?_
      refine z_oald hF hZ (4) (by omega) d3 (i) (by omega) (by omega) (d3g (i) (by omega)) d_D_find_15 ?_
      refine gf_D_22 hF hZ (5 + 3 * sg (i)) (by have := d4 i (by omega); omega) hw.1 rfl d_D_find_16 ?_
      refine lv_aload_n hF.1 hF.2.1 d_D_find_19 rfl (lv_at hl 2 rfl) ?_
      refine z_calli hZ (z_run cw_D_36 hF hZ (6 + 3 * sg (i)) (c_L_isSameAs l (by omega) (by omega) (by omega) (by omega) hw.2.1 hk2 hka2 hne2 hcap2 g) (by decide) (by omega) e5 rfl rfl hl.1 rfl (Nat.le_of_ble_eq_true rfl) d_D_find_20) (fun v enq H locs hp hZ => ?_)
      obtain ⟨he, hv⟩ := hp
      subst hv
      have hZ := hZ.to he
      refine lv_if_eq (tgt := 28) hF.1 hF.2.1 d_D_find_23 (by decide) (fun q => ?_) (fun q => ?_)
      · have q : ¬ w.1 = ys := of_decide_eq_false (bI_0.mp q)
        refine lv_iinc (k := 0) (v := (nI (i + 1))) hF.1 hF.2.1 d_D_find_28 hl rfl (iinc_p (i)) (by decide) rfl (fun ls hl => ?_)
        have hl : lv_has ls 3 [(2, .int (nI (i + 1))), (0, .ref (ad (3))), (1, .ref (ad (k2)))] := hl
        refine lv_goto (tgt := 2) hF.1 hF.2.1 d_D_find_31 (by decide) ?_
        refine ih (i + 1) H locs ls (by omega) (fun k v hk hv => ?_) hl hZ
        by_cases y : k = i
        · subst y; cases hwi.symm.trans hv; exact q
        · exact hp k v (by omega) hv
      · have q : w.1 = ys := Classical.byContradiction (fun y => q (bI_0.mpr (decide_eq_false y)))
        refine lv_iload_n hF.1 hF.2.1 d_D_find_26 rfl (lv_at hl 0 rfl) ?_
        exact z_iret hF hr hlocks hZ rfl ⟨rfl, Or.inl ⟨i, w, hwi, q, rfl⟩⟩ d_D_find_27
  refine lv_iconst (v := (nI (0))) hF.1 hF.2.1 d_D_find_0 (by decide) ?_
  refine lv_istore_n hF.1 hF.2.1 d_D_find_1 rfl hl (by decide) rfl (fun ls hl => ?_)
  have hl : lv_has ls 3 [(2, .int (nI (0))), (0, .ref (ad (3))), (1, .ref (ad (k2)))] := hl
  exact loop C.length 0 _ _ ls (by omega) (fun k w hk => absurd hk (Nat.not_lt_zero _)) hl hZ
set_option maxHeartbeats 4000000 in
set_option maxRecDepth 100000 in
theorem c_D_placeFor (l : Launch) {G : zG} {ad : Nat → Nat} {en : Nat → va_E} {N : Nat} {sg : Nat → Nat} {C : List wd_W} (hN : 77 ≤ N) (h : pD G ad en sg C) {k2 ka2 cap2 : Nat} {ys : List Nat} (hk2 : k2 < N) (hka2 : ka2 < N) (hne2 : k2 ≠ ka2) (hcap2 : cap2 < 2 ^ 31) (g : pL G ad en k2 ka2 cap2 ys) : zMi l y_D_placeFor b_D_placeFor 4 .int 3 G ad en N [.ref (ad (3)), .ref (ad (k2))] (fun v en1 => en1 = en ∧ v = nI (C.countP (fun w => wd_lt w.1 ys))) := by
  have hh := h
  obtain ⟨d1, d2, ⟨g0, d3, d3g⟩, d4, d5, d6, d7⟩ := hh
  have gg := g
  obtain ⟨e3, g1, g26, f2, e4, g2⟩ := gg
  refine z_met (by decide) (Nat.le_of_ble_eq_true rfl) ?_
  intro p e s m below meth c ls hF hr hlocks hnam hZ hl
  have hF : CallFix p m c b_D_placeFor 4 s ([.ref (ad (3)), .ref (ad (k2))] : List Value).toArray zz R_D := hF
  have hl : lv_has ls 4 [(0, .ref (ad (3))), (1, .ref (ad (k2)))] := hl
  have loop : ∀ (n i c0 : Nat) (H : Heap) (locs : List Loc) (ls : Array Slot), (i + n = C.length) → (c0 = (C.take i).countP (fun w => wd_lt w.1 ys)) → lv_has ls 4 [(3, .int (nI (i))), (2, .int (nI (c0))), (0, .ref (ad (3))), (1, .ref (ad (k2)))] → zH G ad en N s H locs → W p l e (zR 3) s m ([.ref (ad (3)), .ref (ad (k2))] : List Value).toArray below meth c H locs 0 0 (MQ below (zQi G ad N (fun v en1 => en1 = en ∧ v = nI (C.countP (fun w => wd_lt w.1 ys)))) ([.ref (ad (3)), .ref (ad (k2))] : List Value).toArray s 0 0 (zA G)) (F0 m 4 ls []) := by
    intro n
    induction n with
    | zero =>
      intro i c0 H locs ls hin hp hl hZ
      refine lv_iload_n hF.1 hF.2.1 d_D_placeFor_4 rfl (lv_at hl 0 rfl) ?_
      refine lv_aload_n hF.1 hF.2.1 d_D_placeFor_5 rfl (lv_at hl 2 rfl) ?_
      refine gf_D_18 hF hZ (3) (by omega) d1 rfl d_D_placeFor_6 ?_
      refine lv_icmp_ge (tgt := 37) hF.1 hF.2.1 d_D_placeFor_9 (by decide) (fun _ => ?_) (fun h => absurd (nI_le (by omega) (by omega)) h)
      refine lv_iload_n hF.1 hF.2.1 d_D_placeFor_37 rfl (lv_at hl 1 rfl) ?_
      exact z_iret hF hr hlocks hZ rfl ⟨rfl, by rw [hp, List.take_of_length_le (by omega)]⟩ d_D_placeFor_38
    | succ n ih =>
      intro i c0 H locs ls hin hp hl hZ
      obtain ⟨w, hwi⟩ := wd_some (show i < C.length by omega)
      have hw := d7 i w hwi
      have hs := d4 i (by omega)
      have hwL := hw.2.1
      obtain ⟨e5, l1, l26, f5, e6, l2⟩ := hwL
      have hct := wd_cnt_s (fun w => wd_lt w.1 ys) hwi
      refine lv_iload_n hF.1 hF.2.1 d_D_placeFor_4 rfl (lv_at hl 0 rfl) ?_
      refine lv_aload_n hF.1 hF.2.1 d_D_placeFor_5 rfl (lv_at hl 2 rfl) ?_
      refine gf_D_18 hF hZ (3) (by omega) d1 rfl d_D_placeFor_6 ?_
      refine lv_icmp_ge (tgt := 37) hF.1 hF.2.1 d_D_placeFor_9 (by decide) (fun h => absurd h (nI_ge (show i < C.length by omega) (by omega))) (fun _ => ?_)
      refine lv_aload_n hF.1 hF.2.1 d_D_placeFor_12 rfl (lv_at hl 2 rfl) ?_
      refine gf_D_11 hF hZ (3) (by omega) d1 rfl d_D_placeFor_13 ?_
      refine lv_iload_n hF.1 hF.2.1 d_D_placeFor_16 rfl (lv_at hl 0 rfl) ?_
      refine z_oald hF hZ (4) (by omega) d3 (i) (by omega) (by omega) (d3g (i) (by omega)) d_D_placeFor_17 ?_
      refine gf_D_22 hF hZ (5 + 3 * sg (i)) (by have := d4 i (by omega); omega) hw.1 rfl d_D_placeFor_18 ?_
      refine lv_aload_n hF.1 hF.2.1 d_D_placeFor_21 rfl (lv_at hl 3 rfl) ?_
      refine z_calli hZ (z_run cw_D_54 hF hZ (6 + 3 * sg (i)) (c_L_isBefore l (by omega) (by omega) (by omega) (by omega) hw.2.1 hk2 hka2 hne2 hcap2 g) (by decide) (by omega) e5 rfl rfl hl.1 rfl (Nat.le_of_ble_eq_true rfl) d_D_placeFor_22) (fun v enq H locs hp hZ => ?_)
      obtain ⟨he, hv⟩ := hp
      subst hv
      have hZ := hZ.to he
      refine lv_if_eq (tgt := 31) hF.1 hF.2.1 d_D_placeFor_25 (by decide) (fun q => ?_) (fun q => ?_)
      · have q := bI_0.mp q
        refine lv_iinc (k := 0) (v := (nI (i + 1))) hF.1 hF.2.1 d_D_placeFor_31 hl rfl (iinc_p (i)) (by decide) rfl (fun ls hl => ?_)
        have hl : lv_has ls 4 [(3, .int (nI (i + 1))), (2, .int (nI (c0))), (0, .ref (ad (3))), (1, .ref (ad (k2)))] := hl
        refine lv_goto (tgt := 4) hF.1 hF.2.1 d_D_placeFor_34 (by decide) ?_
        exact ih (i + 1) c0 H locs ls (by omega) (by rw [hct, q, ← hp]; rfl) hl hZ
      · have q : wd_lt w.1 ys = true := by cases y : wd_lt w.1 ys with
          | false => exact absurd (bI_0.mpr y) q
          | true => rfl
        refine lv_iinc (k := 1) (v := (nI (c0 + 1))) hF.1 hF.2.1 d_D_placeFor_28 hl rfl (iinc_p (c0)) (by decide) rfl (fun ls hl => ?_)
        have hl : lv_has ls 4 [(2, .int (nI (c0 + 1))), (3, .int (nI (i))), (0, .ref (ad (3))), (1, .ref (ad (k2)))] := hl
        refine lv_iinc (k := 1) (v := (nI (i + 1))) hF.1 hF.2.1 d_D_placeFor_31 hl rfl (iinc_p (i)) (by decide) rfl (fun ls hl => ?_)
        have hl : lv_has ls 4 [(3, .int (nI (i + 1))), (2, .int (nI (c0 + 1))), (0, .ref (ad (3))), (1, .ref (ad (k2)))] := hl
        refine lv_goto (tgt := 4) hF.1 hF.2.1 d_D_placeFor_34 (by decide) ?_
        exact ih (i + 1) (c0 + 1) H locs ls (by omega) (by rw [hct, q, ← hp]; rfl) hl hZ
  refine lv_iconst (v := (nI (0))) hF.1 hF.2.1 d_D_placeFor_0 (by decide) ?_
  refine lv_istore_n hF.1 hF.2.1 d_D_placeFor_1 rfl hl (by decide) rfl (fun ls hl => ?_)
  have hl : lv_has ls 4 [(2, .int (nI (0))), (0, .ref (ad (3))), (1, .ref (ad (k2)))] := hl
  refine lv_iconst (v := (nI (0))) hF.1 hF.2.1 d_D_placeFor_2 (by decide) ?_
  refine lv_istore_n hF.1 hF.2.1 d_D_placeFor_3 rfl hl (by decide) rfl (fun ls hl => ?_)
  have hl : lv_has ls 4 [(3, .int (nI (0))), (2, .int (nI (0))), (0, .ref (ad (3))), (1, .ref (ad (k2)))] := hl
  exact loop C.length 0 0 _ _ ls (by omega) (by rw [List.take_zero]; rfl) hl hZ
