theorem dist_18 {T : List Nat} {w : wd_W} (hT : T.length ≤ 10) (hw : w.1.length ≤ 8) : dist T w ≤ 18 := ed_18 (Nat.zero_le _) (Nat.zero_le _) hT hw
theorem wd_cnt_qm {l : List wd_W} {d : wd_W → Nat} {dd : Int32} {v : wd_W} (hd : ∀ u ∈ l, d u < 2 ^ 30) (hv : v ∈ l) (hq : nI (d v) ≤ dd) : l.countP (fun u => wd_bt d u v) = l.countP (fun u => decide (nI (d u) ≤ dd) && wd_bt d u v) := by
  refine List.countP_congr (fun u hu => ⟨fun h => ?_, fun h => ?_⟩)
  · have h2 := (wd_bt_iff d u v).mp h
    have hle : d u ≤ d v := by omega
    have h3 : nI (d u) ≤ nI (d v) := nI_le hle (by have := hd v hv; omega)
    rw [Bool.and_eq_true]
    exact ⟨decide_eq_true (Int32.le_trans h3 hq), h⟩
  · rw [Bool.and_eq_true] at h; exact h.2
set_option maxHeartbeats 4000000 in
set_option maxRecDepth 100000 in
theorem c_S_measureAll (l : Launch) {G : zG} {ad : Nat → Nat} {en : Nat → va_E} {N : Nat} {T : List Nat} {sg : Nat → Nat} {C : List wd_W} (hN : 104 ≤ N) (h : pS G ad en T sg C) : zMv l y_S_measureAll b_S_measureAll 2 4 G ad en N [.ref (ad (0))] (fun en1 => pS G ad en1 T sg C ∧ (∃ f : Nat → Int32, en1 103 = .inl (zI G, 24, .inl f) ∧ ∀ k w, C[k]? = some w → f k = nI (dist T w)) ∧ ∀ r, 104 ≤ r → en1 r = en r) := by
  refine z_met (by decide) (Nat.le_of_ble_eq_true rfl) ?_
  intro p e s m below meth c ls hF hr hlocks hnam hZ hl
  have hF : CallFix p m c b_S_measureAll 2 s ([.ref (ad (0))] : List Value).toArray zz R_S := hF
  have hl : lv_has ls 2 [(0, .ref (ad (0)))] := hl
  have loop : ∀ (n i : Nat) (en1 : Nat → va_E) (fd : Nat → Int32) (H : Heap) (locs : List Loc) (ls : Array Slot), (i + n = C.length) → (pS G ad en1 T sg C) → (en1 103 = .inl (zI G, 24, .inl fd)) → (∀ k w, k < i → C[k]? = some w → fd k = nI (dist T w)) → (∀ r, 104 ≤ r → en1 r = en r) → lv_has ls 2 [(1, .int (nI (i))), (0, .ref (ad (0)))] → zH G ad en1 N s H locs → W p l e (zR 4) s m ([.ref (ad (0))] : List Value).toArray below meth c H locs 0 0 (MQ below (zQv G ad N (fun en1 => pS G ad en1 T sg C ∧ (∃ f : Nat → Int32, en1 103 = .inl (zI G, 24, .inl f) ∧ ∀ k w, C[k]? = some w → f k = nI (dist T w)) ∧ ∀ r, 104 ≤ r → en1 r = en r)) ([.ref (ad (0))] : List Value).toArray s 0 0 (zA G)) (F0 m 2 ls []) := by
    intro n
    induction n with
    | zero =>
      intro i en1 fd H locs ls hin h1 sF hf hfr hl hZ
      have hh := h1
      obtain ⟨s0, sL, sD, ⟨ME, sE⟩, ⟨MR, sR⟩, -, -⟩ := hh
      have hsL := sL
      obtain ⟨e1, l1, l26, f1, e2, l2⟩ := hsL
      have hsD := sD
      obtain ⟨d1, d2, ⟨g0, d3, d3g⟩, d4, d5, d6, d7⟩ := hsD
      refine lv_iload_n hF.1 hF.2.1 d_S_measureAll_2 rfl (lv_at hl 0 rfl) ?_
      refine lv_aload_n hF.1 hF.2.1 d_S_measureAll_3 rfl (lv_at hl 1 rfl) ?_
      refine gf_S_21 hF hZ (0) (by omega) s0 rfl d_S_measureAll_4 ?_
      refine gf_S_78 hF hZ (3) (by omega) d1 rfl d_S_measureAll_7 ?_
      refine lv_icmp_ge (tgt := 44) hF.1 hF.2.1 d_S_measureAll_10 (by decide) (fun _ => ?_) (fun h => absurd (nI_le (by omega) (by omega)) h)
      exact z_vret hF hr hlocks hZ ⟨h1, ⟨fd, sF, fun k w hk => hf k w (by have := wd_lt_of hk; omega) hk⟩, hfr⟩ d_S_measureAll_44
    | succ n ih =>
      intro i en1 fd H locs ls hin h1 sF hf hfr hl hZ
      have hh := h1
      obtain ⟨s0, sL, sD, ⟨ME, sE⟩, ⟨MR, sR⟩, -, -⟩ := hh
      have hsL := sL
      obtain ⟨e1, l1, l26, f1, e2, l2⟩ := hsL
      have hsD := sD
      obtain ⟨d1, d2, ⟨g0, d3, d3g⟩, d4, d5, d6, d7⟩ := hsD
      obtain ⟨w, hi⟩ := wd_some (show i < C.length by omega)
      have hsi := d4 i (by omega)
      have hw := d7 i w hi
      have hwL := hw.2.1
      obtain ⟨e5, m1, m26, f5, e6, m2⟩ := hwL
      refine lv_iload_n hF.1 hF.2.1 d_S_measureAll_2 rfl (lv_at hl 0 rfl) ?_
      refine lv_aload_n hF.1 hF.2.1 d_S_measureAll_3 rfl (lv_at hl 1 rfl) ?_
      refine gf_S_21 hF hZ (0) (by omega) s0 rfl d_S_measureAll_4 ?_
      refine gf_S_78 hF hZ (3) (by omega) d1 rfl d_S_measureAll_7 ?_
      refine lv_icmp_ge (tgt := 44) hF.1 hF.2.1 d_S_measureAll_10 (by decide) (fun h => absurd h (nI_ge (show i < C.length by omega) (by omega))) (fun _ => ?_)
      refine lv_aload_n hF.1 hF.2.1 d_S_measureAll_13 rfl (lv_at hl 1 rfl) ?_
      refine gf_S_39 hF hZ (0) (by omega) s0 rfl d_S_measureAll_14 ?_
      refine lv_iload_n hF.1 hF.2.1 d_S_measureAll_17 rfl (lv_at hl 0 rfl) ?_
      refine lv_aload_n hF.1 hF.2.1 d_S_measureAll_18 rfl (lv_at hl 1 rfl) ?_
      refine gf_S_28 hF hZ (0) (by omega) s0 rfl d_S_measureAll_19 ?_
      refine lv_aload_n hF.1 hF.2.1 d_S_measureAll_22 rfl (lv_at hl 1 rfl) ?_
      refine gf_S_14 hF hZ (0) (by omega) s0 rfl d_S_measureAll_23 ?_
      refine lv_aload_n hF.1 hF.2.1 d_S_measureAll_26 rfl (lv_at hl 1 rfl) ?_
      refine gf_S_21 hF hZ (0) (by omega) s0 rfl d_S_measureAll_27 ?_
      refine lv_iload_n hF.1 hF.2.1 d_S_measureAll_30 rfl (lv_at hl 0 rfl) ?_
      refine z_callr hZ (z_run cw_S_82 hF hZ (3) (c_D_lettersOf l (by omega) sD (j := i) (by omega)) (by decide) (by omega) d1 rfl rfl hl.1 rfl (Nat.le_of_ble_eq_true rfl) d_S_measureAll_31) (fun v enq H locs hp hZ => ?_)
      obtain ⟨he, hv⟩ := hp
      subst hv
      have hZ := hZ.to he
      refine z_calli hZ (z_run cw_S_89 hF hZ (77) (c_E_measure l (k1 := 1) (a1 := 2) (by omega) (by omega) (by omega) (by omega) sL (by omega) (by omega) (by omega) (by omega) hw.2.1 l1 m1 (by omega) sE (by omega) (by omega) (by omega) (by omega)) (by decide) (by omega) sE.1 rfl rfl hl.1 rfl (Nat.le_of_ble_eq_true rfl) d_S_measureAll_34) (fun v en2 H locs hq hZ => ?_)
      obtain ⟨hv, ⟨M1, hq1, -⟩, hq2⟩ := hq
      subst hv
      have h2 := h1.edt hq1 hq2
      have sF2 : en2 103 = .inl (zI G, 24, .inl fd) := by rw [hq2 103 (by omega)]; exact sF
      refine z_iast hF hZ (103) (by omega) sF2 (i) (by omega) (by omega) d_S_measureAll_37 (fun H locs hZ => ?_)
      obtain ⟨ze1, hn2⟩ : ∃ z, z = va_up en2 (103) (.inl (zI G, 24, .inl (upd (fd) (i) (nI (dist T w))))) := ⟨_, rfl⟩
      have hZ : zH G ad ze1 N s H locs := hZ.to hn2.symm
      have ff3 : ze1 (103) = .inl (zI G, 24, .inl (upd (fd) (i) (nI (dist T w)))) := by rw [hn2]; exact va_up_self _ _ _
      refine lv_iinc (k := 0) (v := (nI (i + 1))) hF.1 hF.2.1 d_S_measureAll_38 hl rfl (iinc_p (i)) (by decide) rfl (fun ls hl => ?_)
      have hl : lv_has ls 2 [(1, .int (nI (i + 1))), (0, .ref (ad (0)))] := hl
      refine lv_goto (tgt := 2) hF.1 hF.2.1 d_S_measureAll_41 (by decide) ?_
      refine ih (i + 1) ze1 (upd fd i (nI (dist T w))) H locs ls (by omega) (h2.dst ff3 (fun r hr => by rw [hn2, va_up_ne _ _ hr])) ff3 (fun k v hk hv => ?_) (fun r hr => ?_) hl hZ
      · by_cases y : k = i
        · subst y; cases hi.symm.trans hv; rw [pk_us]
        · rw [pk_un y]; exact hf k v (by omega) hv
      · rw [hn2, va_up_ne _ _ (by omega), hq2 r (by omega)]; exact hfr r hr
  have hh := h
  obtain ⟨-, -, sD, -, -, fd, sF⟩ := hh
  refine lv_iconst (v := (nI (0))) hF.1 hF.2.1 d_S_measureAll_0 (by decide) ?_
  refine lv_istore_n hF.1 hF.2.1 d_S_measureAll_1 rfl hl (by decide) rfl (fun ls hl => ?_)
  have hl : lv_has ls 2 [(1, .int (nI (0))), (0, .ref (ad (0)))] := hl
  exact loop C.length 0 en fd _ _ ls (by omega) h sF (fun k w hk => absurd hk (Nat.not_lt_zero _)) (fun _ _ => rfl) hl hZ
set_option maxHeartbeats 4000000 in
set_option maxRecDepth 100000 in
theorem c_S_isSuggestedBefore (l : Launch) {G : zG} {ad : Nat → Nat} {en : Nat → va_E} {N : Nat} {T : List Nat} {sg : Nat → Nat} {C : List wd_W} (hN : 104 ≤ N) (h : pS G ad en T sg C) {fd : Nat → Int32} (sF : en 103 = .inl (zI G, 24, .inl fd)) (hf : ∀ k w, C[k]? = some w → fd k = nI (dist T w)) (hso : wd_so C) {i j : Nat} {u w : wd_W} (hi : C[i]? = some u) (hj : C[j]? = some w) : zMi l y_S_isSuggestedBefore b_S_isSuggestedBefore 3 .boolean 2 G ad en N [.ref (ad (0)), .int (nI (i)), .int (nI (j))] (fun v en1 => en1 = en ∧ v = bI (wd_bt (dist T) u w)) := by
  have hh := h
  obtain ⟨s0, sL, sD, ⟨ME, sE⟩, ⟨MR, sR⟩, -, -⟩ := hh
  have hsL := sL
  obtain ⟨e1, l1, l26, f1, e2, l2⟩ := hsL
  have hsD := sD
  obtain ⟨d1, d2, ⟨g0, d3, d3g⟩, d4, d5, d6, d7⟩ := hsD
  have hil := wd_lt_of hi
  have hjl := wd_lt_of hj
  have hu := (d7 i u hi).2.1.2.1
  have hw := (d7 j w hj).2.1.2.1
  have b1 := dist_18 l1 hu
  have b2 := dist_18 l1 hw
  have m1 := hf i u hi
  have m2 := hf j w hj
  have hr0 := wd_lt_rank hso hi hj
  refine z_met (by decide) (Nat.le_of_ble_eq_true rfl) ?_
  intro p e s m below meth c ls hF hr hlocks hnam hZ hl
  have hF : CallFix p m c b_S_isSuggestedBefore 3 s ([.ref (ad (0)), .int (nI (i)), .int (nI (j))] : List Value).toArray zz R_S := hF
  have hl : lv_has ls 3 [(0, .ref (ad (0))), (1, .int (nI (i))), (2, .int (nI (j)))] := hl
  refine lv_aload_n hF.1 hF.2.1 d_S_isSuggestedBefore_0 rfl (lv_at hl 0 rfl) ?_
  refine gf_S_39 hF hZ (0) (by omega) s0 rfl d_S_isSuggestedBefore_1 ?_
  refine lv_iload_n hF.1 hF.2.1 d_S_isSuggestedBefore_4 rfl (lv_at hl 1 rfl) ?_
  refine z_iald hF hZ (103) (by omega) sF (i) (by omega) (by omega) d_S_isSuggestedBefore_5 ?_
  refine z_top (y := (nI (dist T u))) m1 ?_
  refine lv_aload_n hF.1 hF.2.1 d_S_isSuggestedBefore_6 rfl (lv_at hl 0 rfl) ?_
  refine gf_S_39 hF hZ (0) (by omega) s0 rfl d_S_isSuggestedBefore_7 ?_
  refine lv_iload_n hF.1 hF.2.1 d_S_isSuggestedBefore_10 rfl (lv_at hl 2 rfl) ?_
  refine z_iald hF hZ (103) (by omega) sF (j) (by omega) (by omega) d_S_isSuggestedBefore_11 ?_
  refine z_top (y := (nI (dist T w))) m2 ?_
  refine lv_icmp_eq (tgt := 36) hF.1 hF.2.1 d_S_isSuggestedBefore_12 (by decide) (fun q => ?_) (fun q => ?_)
  · have q := (nI_eq (by omega) (by omega)).mp q
    refine lv_aload_n hF.1 hF.2.1 d_S_isSuggestedBefore_36 rfl (lv_at hl 0 rfl) ?_
    refine gf_S_21 hF hZ (0) (by omega) s0 rfl d_S_isSuggestedBefore_37 ?_
    refine lv_iload_n hF.1 hF.2.1 d_S_isSuggestedBefore_40 rfl (lv_at hl 1 rfl) ?_
    refine lv_iload_n hF.1 hF.2.1 d_S_isSuggestedBefore_41 rfl (lv_at hl 2 rfl) ?_
    refine z_calli hZ (z_run cw_S_117 hF hZ (3) (c_D_isPreferred l (by omega) sD hi hj) (by decide) (by omega) d1 rfl rfl hl.1 rfl (Nat.le_of_ble_eq_true rfl) d_S_isSuggestedBefore_42) (fun v enq H locs hp hZ => ?_)
    obtain ⟨he, hv⟩ := hp
    subst hv
    have hZ := hZ.to he
    exact z_iret hF hr hlocks hZ (bI_nar _) ⟨rfl, by unfold wd_bt; rw [if_pos q, hr0]⟩ d_S_isSuggestedBefore_45
  · have q : ¬ dist T u = dist T w := fun z => q (by rw [z])
    refine lv_aload_n hF.1 hF.2.1 d_S_isSuggestedBefore_15 rfl (lv_at hl 0 rfl) ?_
    refine gf_S_39 hF hZ (0) (by omega) s0 rfl d_S_isSuggestedBefore_16 ?_
    refine lv_iload_n hF.1 hF.2.1 d_S_isSuggestedBefore_19 rfl (lv_at hl 1 rfl) ?_
    refine z_iald hF hZ (103) (by omega) sF (i) (by omega) (by omega) d_S_isSuggestedBefore_20 ?_
    refine z_top (y := (nI (dist T u))) m1 ?_
    refine lv_aload_n hF.1 hF.2.1 d_S_isSuggestedBefore_21 rfl (lv_at hl 0 rfl) ?_
    refine gf_S_39 hF hZ (0) (by omega) s0 rfl d_S_isSuggestedBefore_22 ?_
    refine lv_iload_n hF.1 hF.2.1 d_S_isSuggestedBefore_25 rfl (lv_at hl 2 rfl) ?_
    refine z_iald hF hZ (103) (by omega) sF (j) (by omega) (by omega) d_S_isSuggestedBefore_26 ?_
    refine z_top (y := (nI (dist T w))) m2 ?_
    refine lv_icmp_ge (tgt := 34) hF.1 hF.2.1 d_S_isSuggestedBefore_27 (by decide) (fun z => ?_) (fun z => ?_)
    · have z := (nI_leI (by omega) (by omega)).mp z
      refine lv_iconst (v := (nI (0))) hF.1 hF.2.1 d_S_isSuggestedBefore_34 (by decide) ?_
      exact z_iret hF hr hlocks hZ (by decide) ⟨rfl, by unfold wd_bt; rw [if_neg q, decide_eq_false (by omega)]; rfl⟩ d_S_isSuggestedBefore_35
    · have z : dist T u < dist T w := Nat.lt_of_not_le (fun y => z (nI_le y (by omega)))
      refine lv_iconst (v := (nI (1))) hF.1 hF.2.1 d_S_isSuggestedBefore_30 (by decide) ?_
      refine lv_goto (tgt := 35) hF.1 hF.2.1 d_S_isSuggestedBefore_31 (by decide) ?_
      exact z_iret hF hr hlocks hZ (by decide) ⟨rfl, by unfold wd_bt; rw [if_neg q, decide_eq_true z]; rfl⟩ d_S_isSuggestedBefore_35
set_option maxHeartbeats 4000000 in
set_option maxRecDepth 100000 in
theorem c_S_placeAmongSuggestions (l : Launch) {G : zG} {ad : Nat → Nat} {en : Nat → va_E} {N : Nat} {T : List Nat} {sg : Nat → Nat} {C : List wd_W} (hN : 104 ≤ N) (h : pS G ad en T sg C) {fd : Nat → Int32} (sF : en 103 = .inl (zI G, 24, .inl fd)) (hf : ∀ k w, C[k]? = some w → fd k = nI (dist T w)) (hso : wd_so C) {j : Nat} {w : wd_W} (hj : C[j]? = some w) : zMi l y_S_placeAmongSuggestions b_S_placeAmongSuggestions 4 .int 3 G ad en N [.ref (ad (0)), .int (nI (j))] (fun v en1 => en1 = en ∧ v = nI (C.countP (fun u => wd_bt (dist T) u w))) := by
  have hh := h
  obtain ⟨s0, sL, sD, ⟨ME, sE⟩, ⟨MR, sR⟩, -, -⟩ := hh
  have hsL := sL
  obtain ⟨e1, l1, l26, f1, e2, l2⟩ := hsL
  have hsD := sD
  obtain ⟨d1, d2, ⟨g0, d3, d3g⟩, d4, d5, d6, d7⟩ := hsD
  have hjl := wd_lt_of hj
  refine z_met (by decide) (Nat.le_of_ble_eq_true rfl) ?_
  intro p e s m below meth c ls hF hr hlocks hnam hZ hl
  have hF : CallFix p m c b_S_placeAmongSuggestions 4 s ([.ref (ad (0)), .int (nI (j))] : List Value).toArray zz R_S := hF
  have hl : lv_has ls 4 [(0, .ref (ad (0))), (1, .int (nI (j)))] := hl
  have loop : ∀ (n i c0 : Nat) (H : Heap) (locs : List Loc) (ls : Array Slot), (i + n = C.length) → (c0 = (C.take i).countP (fun u => wd_bt (dist T) u w)) → lv_has ls 4 [(3, .int (nI (i))), (2, .int (nI (c0))), (0, .ref (ad (0))), (1, .int (nI (j)))] → zH G ad en N s H locs → W p l e (zR 3) s m ([.ref (ad (0)), .int (nI (j))] : List Value).toArray below meth c H locs 0 0 (MQ below (zQi G ad N (fun v en1 => en1 = en ∧ v = nI (C.countP (fun u => wd_bt (dist T) u w)))) ([.ref (ad (0)), .int (nI (j))] : List Value).toArray s 0 0 (zA G)) (F0 m 4 ls []) := by
    intro n
    induction n with
    | zero =>
      intro i c0 H locs ls hin hp hl hZ
      refine lv_iload_n hF.1 hF.2.1 d_S_placeAmongSuggestions_4 rfl (lv_at hl 0 rfl) ?_
      refine lv_aload_n hF.1 hF.2.1 d_S_placeAmongSuggestions_5 rfl (lv_at hl 2 rfl) ?_
      refine gf_S_21 hF hZ (0) (by omega) s0 rfl d_S_placeAmongSuggestions_6 ?_
      refine gf_S_78 hF hZ (3) (by omega) d1 rfl d_S_placeAmongSuggestions_9 ?_
      refine lv_icmp_ge (tgt := 33) hF.1 hF.2.1 d_S_placeAmongSuggestions_12 (by decide) (fun _ => ?_) (fun h => absurd (nI_le (by omega) (by omega)) h)
      refine lv_iload_n hF.1 hF.2.1 d_S_placeAmongSuggestions_33 rfl (lv_at hl 1 rfl) ?_
      exact z_iret hF hr hlocks hZ rfl ⟨rfl, by rw [hp, List.take_of_length_le (by omega)]⟩ d_S_placeAmongSuggestions_34
    | succ n ih =>
      intro i c0 H locs ls hin hp hl hZ
      obtain ⟨u, hi⟩ := wd_some (show i < C.length by omega)
      have hct := wd_cnt_s (fun u => wd_bt (dist T) u w) hi
      refine lv_iload_n hF.1 hF.2.1 d_S_placeAmongSuggestions_4 rfl (lv_at hl 0 rfl) ?_
      refine lv_aload_n hF.1 hF.2.1 d_S_placeAmongSuggestions_5 rfl (lv_at hl 2 rfl) ?_
      refine gf_S_21 hF hZ (0) (by omega) s0 rfl d_S_placeAmongSuggestions_6 ?_
      refine gf_S_78 hF hZ (3) (by omega) d1 rfl d_S_placeAmongSuggestions_9 ?_
      refine lv_icmp_ge (tgt := 33) hF.1 hF.2.1 d_S_placeAmongSuggestions_12 (by decide) (fun h => absurd h (nI_ge (show i < C.length by omega) (by omega))) (fun _ => ?_)
      refine lv_aload_n hF.1 hF.2.1 d_S_placeAmongSuggestions_15 rfl (lv_at hl 2 rfl) ?_
      refine lv_iload_n hF.1 hF.2.1 d_S_placeAmongSuggestions_16 rfl (lv_at hl 0 rfl) ?_
      refine lv_iload_n hF.1 hF.2.1 d_S_placeAmongSuggestions_17 rfl (lv_at hl 3 rfl) ?_
      refine z_calli hZ (z_run cw_S_113 hF hZ (0) (c_S_isSuggestedBefore l hN h sF hf hso hi hj) (by decide) (by omega) s0 rfl rfl hl.1 rfl (Nat.le_of_ble_eq_true rfl) d_S_placeAmongSuggestions_18) (fun v enq H locs hp hZ => ?_)
      obtain ⟨he, hv⟩ := hp
      subst hv
      have hZ := hZ.to he
      refine lv_if_eq (tgt := 27) hF.1 hF.2.1 d_S_placeAmongSuggestions_21 (by decide) (fun q => ?_) (fun q => ?_)
      · have q := bI_0.mp q
        refine lv_iinc (k := 0) (v := (nI (i + 1))) hF.1 hF.2.1 d_S_placeAmongSuggestions_27 hl rfl (iinc_p (i)) (by decide) rfl (fun ls hl => ?_)
        have hl : lv_has ls 4 [(3, .int (nI (i + 1))), (2, .int (nI (c0))), (0, .ref (ad (0))), (1, .int (nI (j)))] := hl
        refine lv_goto (tgt := 4) hF.1 hF.2.1 d_S_placeAmongSuggestions_30 (by decide) ?_
        exact ih (i + 1) c0 H locs ls (by omega) (by rw [hct, q, ← hp]; rfl) hl hZ
      · have q := bI_1 q
        refine lv_iinc (k := 1) (v := (nI (c0 + 1))) hF.1 hF.2.1 d_S_placeAmongSuggestions_24 hl rfl (iinc_p (c0)) (by decide) rfl (fun ls hl => ?_)
        have hl : lv_has ls 4 [(2, .int (nI (c0 + 1))), (3, .int (nI (i))), (0, .ref (ad (0))), (1, .int (nI (j)))] := hl
        refine lv_iinc (k := 1) (v := (nI (i + 1))) hF.1 hF.2.1 d_S_placeAmongSuggestions_27 hl rfl (iinc_p (i)) (by decide) rfl (fun ls hl => ?_)
        have hl : lv_has ls 4 [(3, .int (nI (i + 1))), (2, .int (nI (c0 + 1))), (0, .ref (ad (0))), (1, .int (nI (j)))] := hl
        refine lv_goto (tgt := 4) hF.1 hF.2.1 d_S_placeAmongSuggestions_30 (by decide) ?_
        exact ih (i + 1) (c0 + 1) H locs ls (by omega) (by rw [hct, q, ← hp]; rfl) hl hZ
  refine lv_iconst (v := (nI (0))) hF.1 hF.2.1 d_S_placeAmongSuggestions_0 (by decide) ?_
  refine lv_istore_n hF.1 hF.2.1 d_S_placeAmongSuggestions_1 rfl hl (by decide) rfl (fun ls hl => ?_)
  have hl : lv_has ls 4 [(2, .int (nI (0))), (0, .ref (ad (0))), (1, .int (nI (j)))] := hl
  refine lv_iconst (v := (nI (0))) hF.1 hF.2.1 d_S_placeAmongSuggestions_2 (by decide) ?_
  refine lv_istore_n hF.1 hF.2.1 d_S_placeAmongSuggestions_3 rfl hl (by decide) rfl (fun ls hl => ?_)
  have hl : lv_has ls 4 [(3, .int (nI (0))), (2, .int (nI (0))), (0, .ref (ad (0))), (1, .int (nI (j)))] := hl
  exact loop C.length 0 0 _ _ ls (by omega) (by rw [List.take_zero]; rfl) hl hZ
set_option maxHeartbeats 4000000 in
set_option maxRecDepth 100000 in
theorem c_S_near (l : Launch) {G : zG} {ad : Nat → Nat} {en : Nat → va_E} {N : Nat} {T : List Nat} {sg : Nat → Nat} {C : List wd_W} (hN : 104 ≤ N) (h : pS G ad en T sg C) {dd : Int32} : zMi l y_S_near b_S_near 4 .int 5 G ad en N [.ref (ad (0)), .int (dd)] (fun v en1 => v = nI (C.countP (fun u => decide (nI (dist T u) ≤ dd))) ∧ pS G ad en1 T sg C ∧ ∀ r, 104 ≤ r → en1 r = en r) := by
  have s00 := h.1
  refine z_met (by decide) (Nat.le_of_ble_eq_true rfl) ?_
  intro p e s m below meth c ls hF hr hlocks hnam hZ hl
  have hF : CallFix p m c b_S_near 4 s ([.ref (ad (0)), .int (dd)] : List Value).toArray zz R_S := hF
  have hl : lv_has ls 4 [(0, .ref (ad (0))), (1, .int (dd))] := hl
  refine lv_aload_n hF.1 hF.2.1 d_S_near_0 rfl (lv_at hl 0 rfl) ?_
  refine z_callv hZ (z_run cw_S_93 hF hZ (0) (c_S_measureAll l hN h) (by decide) (by omega) s00 rfl rfl hl.1 rfl (Nat.le_of_ble_eq_true rfl) d_S_near_1) (fun en1 H locs hq hZ => ?_)
  obtain ⟨h1, ⟨fd, sF, hf⟩, hfr⟩ := hq
  have hh := h1
  obtain ⟨s0, sL, sD, ⟨ME, sE⟩, ⟨MR, sR⟩, -, -⟩ := hh
  have hsL := sL
  obtain ⟨e1, l1, l26, f1, e2, l2⟩ := hsL
  have hsD := sD
  obtain ⟨d1, d2, ⟨g0, d3, d3g⟩, d4, d5, d6, d7⟩ := hsD
  have loop : ∀ (n i c0 : Nat) (H : Heap) (locs : List Loc) (ls : Array Slot), (i + n = C.length) → (c0 = (C.take i).countP (fun u => decide (nI (dist T u) ≤ dd))) → lv_has ls 4 [(3, .int (nI (i))), (2, .int (nI (c0))), (0, .ref (ad (0))), (1, .int (dd))] → zH G ad en1 N s H locs → W p l e (zR 5) s m ([.ref (ad (0)), .int (dd)] : List Value).toArray below meth c H locs 0 0 (MQ below (zQi G ad N (fun v en1 => v = nI (C.countP (fun u => decide (nI (dist T u) ≤ dd))) ∧ pS G ad en1 T sg C ∧ ∀ r, 104 ≤ r → en1 r = en r)) ([.ref (ad (0)), .int (dd)] : List Value).toArray s 0 0 (zA G)) (F0 m 8 ls []) := by
    intro n
    induction n with
    | zero =>
      intro i c0 H locs ls hin hp hl hZ
      refine lv_iload_n hF.1 hF.2.1 d_S_near_8 rfl (lv_at hl 0 rfl) ?_
      refine lv_aload_n hF.1 hF.2.1 d_S_near_9 rfl (lv_at hl 2 rfl) ?_
      refine gf_S_21 hF hZ (0) (by omega) s0 rfl d_S_near_10 ?_
      refine gf_S_78 hF hZ (3) (by omega) d1 rfl d_S_near_13 ?_
      refine lv_icmp_ge (tgt := 38) hF.1 hF.2.1 d_S_near_16 (by decide) (fun _ => ?_) (fun h => absurd (nI_le (by omega) (by omega)) h)
      refine lv_iload_n hF.1 hF.2.1 d_S_near_38 rfl (lv_at hl 1 rfl) ?_
      exact z_iret hF hr hlocks hZ rfl ⟨by rw [hp, List.take_of_length_le (by omega)], h1, hfr⟩ d_S_near_39
    | succ n ih =>
      intro i c0 H locs ls hin hp hl hZ
      obtain ⟨u, hi⟩ := wd_some (show i < C.length by omega)
      have hct := wd_cnt_s (fun u => decide (nI (dist T u) ≤ dd)) hi
      refine lv_iload_n hF.1 hF.2.1 d_S_near_8 rfl (lv_at hl 0 rfl) ?_
      refine lv_aload_n hF.1 hF.2.1 d_S_near_9 rfl (lv_at hl 2 rfl) ?_
      refine gf_S_21 hF hZ (0) (by omega) s0 rfl d_S_near_10 ?_
      refine gf_S_78 hF hZ (3) (by omega) d1 rfl d_S_near_13 ?_
      refine lv_icmp_ge (tgt := 38) hF.1 hF.2.1 d_S_near_16 (by decide) (fun h => absurd h (nI_ge (show i < C.length by omega) (by omega))) (fun _ => ?_)
      refine lv_aload_n hF.1 hF.2.1 d_S_near_19 rfl (lv_at hl 2 rfl) ?_
      refine gf_S_39 hF hZ (0) (by omega) s0 rfl d_S_near_20 ?_
      refine lv_iload_n hF.1 hF.2.1 d_S_near_23 rfl (lv_at hl 0 rfl) ?_
      refine z_iald hF hZ (103) (by omega) sF (i) (by omega) (by omega) d_S_near_24 ?_
      refine z_top (y := (nI (dist T u))) (hf i u hi) ?_
      refine lv_iload_n hF.1 hF.2.1 d_S_near_25 rfl (lv_at hl 3 rfl) ?_
      refine lv_icmp_gt (tgt := 32) hF.1 hF.2.1 d_S_near_26 (by decide) (fun q => ?_) (fun q => ?_)
      · have q : ¬ nI (dist T u) ≤ dd := fun z => by
          rw [Int32.lt_iff_toInt_lt] at q; rw [Int32.le_iff_toInt_le] at z; omega
        refine lv_iinc (k := 0) (v := (nI (i + 1))) hF.1 hF.2.1 d_S_near_32 hl rfl (iinc_p (i)) (by decide) rfl (fun ls hl => ?_)
        have hl : lv_has ls 4 [(3, .int (nI (i + 1))), (2, .int (nI (c0))), (0, .ref (ad (0))), (1, .int (dd))] := hl
        refine lv_goto (tgt := 8) hF.1 hF.2.1 d_S_near_35 (by decide) ?_
        exact ih (i + 1) c0 H locs ls (by omega) (by rw [hct, decide_eq_false q, ← hp]; rfl) hl hZ
      · have q : nI (dist T u) ≤ dd := by
          rw [Int32.lt_iff_toInt_lt] at q; rw [Int32.le_iff_toInt_le]; omega
        refine lv_iinc (k := 1) (v := (nI (c0 + 1))) hF.1 hF.2.1 d_S_near_29 hl rfl (iinc_p (c0)) (by decide) rfl (fun ls hl => ?_)
        have hl : lv_has ls 4 [(2, .int (nI (c0 + 1))), (3, .int (nI (i))), (0, .ref (ad (0))), (1, .int (dd))] := hl
        refine lv_iinc (k := 1) (v := (nI (i + 1))) hF.1 hF.2.1 d_S_near_32 hl rfl (iinc_p (i)) (by decide) rfl (fun ls hl => ?_)
        have hl : lv_has ls 4 [(3, .int (nI (i + 1))), (2, .int (nI (c0 + 1))), (0, .ref (ad (0))), (1, .int (dd))] := hl
        refine lv_goto (tgt := 8) hF.1 hF.2.1 d_S_near_35 (by decide) ?_
        exact ih (i + 1) (c0 + 1) H locs ls (by omega) (by rw [hct, decide_eq_true q, ← hp]; rfl) hl hZ
  refine lv_iconst (v := (nI (0))) hF.1 hF.2.1 d_S_near_4 (by decide) ?_
  refine lv_istore_n hF.1 hF.2.1 d_S_near_5 rfl hl (by decide) rfl (fun ls hl => ?_)
  have hl : lv_has ls 4 [(2, .int (nI (0))), (0, .ref (ad (0))), (1, .int (dd))] := hl
  refine lv_iconst (v := (nI (0))) hF.1 hF.2.1 d_S_near_6 (by decide) ?_
  refine lv_istore_n hF.1 hF.2.1 d_S_near_7 rfl hl (by decide) rfl (fun ls hl => ?_)
  have hl : lv_has ls 4 [(3, .int (nI (0))), (2, .int (nI (0))), (0, .ref (ad (0))), (1, .int (dd))] := hl
  exact loop C.length 0 0 _ _ ls (by omega) (by rw [List.take_zero]; rfl) hl hZ
set_option maxHeartbeats 4000000 in
set_option maxRecDepth 100000 in
theorem c_S_suggest (l : Launch) {G : zG} {ad : Nat → Nat} {en : Nat → va_E} {N : Nat} {T : List Nat} {sg : Nat → Nat} {C : List wd_W} (hN : 104 ≤ N) (h : pS G ad en T sg C) (hso : wd_so C) {i0 dd : Int32} : zMi l y_S_suggest b_S_suggest 4 .int 5 G ad en N [.ref (ad (0)), .int (i0), .int (dd)] (fun v en1 => wd_sug C (dist T) (fun u => decide (nI (dist T u) ≤ dd)) i0 v ∧ pS G ad en1 T sg C ∧ ∀ r, 104 ≤ r → en1 r = en r) := by
  have s00 := h.1
  refine z_met (by decide) (Nat.le_of_ble_eq_true rfl) ?_
  intro p e s m below meth c ls hF hr hlocks hnam hZ hl
  have hF : CallFix p m c b_S_suggest 4 s ([.ref (ad (0)), .int (i0), .int (dd)] : List Value).toArray zz R_S := hF
  have hl : lv_has ls 4 [(0, .ref (ad (0))), (1, .int (i0)), (2, .int (dd))] := hl
  refine lv_aload_n hF.1 hF.2.1 d_S_suggest_0 rfl (lv_at hl 0 rfl) ?_
  refine z_callv hZ (z_run cw_S_93 hF hZ (0) (c_S_measureAll l hN h) (by decide) (by omega) s00 rfl rfl hl.1 rfl (Nat.le_of_ble_eq_true rfl) d_S_suggest_1) (fun en1 H locs hq hZ => ?_)
  obtain ⟨h1, ⟨fd, sF, hf⟩, hfr⟩ := hq
  have hh := h1
  obtain ⟨s0, sL, sD, ⟨ME, sE⟩, ⟨MR, sR⟩, -, -⟩ := hh
  have hsL := sL
  obtain ⟨e1, l1, l26, f1, e2, l2⟩ := hsL
  have hsD := sD
  obtain ⟨d1, d2, ⟨g0, d3, d3g⟩, d4, d5, d6, d7⟩ := hsD
  have hdm : ∀ u ∈ C, dist T u < 2 ^ 30 := fun u hu => by
    obtain ⟨k, hk⟩ := List.getElem?_of_mem hu
    have := dist_18 l1 (d7 k u hk).2.1.2.1
    omega
  have loop : ∀ (n i : Nat) (H : Heap) (locs : List Loc) (ls : Array Slot), (i + n = C.length) → (∀ k v, k < i → C[k]? = some v → nI (dist T v) ≤ dd → ¬ i0 = nI (C.countP (fun u => wd_bt (dist T) u v))) → lv_has ls 4 [(3, .int (nI (i))), (0, .ref (ad (0))), (1, .int (i0)), (2, .int (dd))] → zH G ad en1 N s H locs → W p l e (zR 5) s m ([.ref (ad (0)), .int (i0), .int (dd)] : List Value).toArray below meth c H locs 0 0 (MQ below (zQi G ad N (fun v en1 => wd_sug C (dist T) (fun u => decide (nI (dist T u) ≤ dd)) i0 v ∧ pS G ad en1 T sg C ∧ ∀ r, 104 ≤ r → en1 r = en r)) ([.ref (ad (0)), .int (i0), .int (dd)] : List Value).toArray s 0 0 (zA G)) (F0 m 6 ls []) := by
    intro n
    induction n with
    | zero =>
      intro i H locs ls hin hp hl hZ
      refine lv_iload_n hF.1 hF.2.1 d_S_suggest_6 rfl (lv_at hl 0 rfl) ?_
      refine lv_aload_n hF.1 hF.2.1 d_S_suggest_7 rfl (lv_at hl 1 rfl) ?_
      refine gf_S_21 hF hZ (0) (by omega) s0 rfl d_S_suggest_8 ?_
      refine gf_S_78 hF hZ (3) (by omega) d1 rfl d_S_suggest_11 ?_
      refine lv_icmp_ge (tgt := 44) hF.1 hF.2.1 d_S_suggest_14 (by decide) (fun _ => ?_) (fun h => absurd (nI_le (by omega) (by omega)) h)
      refine lv_iconst (v := ((-1))) hF.1 hF.2.1 d_S_suggest_44 (by decide) ?_
      refine z_iret hF hr hlocks hZ rfl ⟨Or.inr ⟨rfl, fun v hv qv => ?_⟩, h1, hfr⟩ d_S_suggest_45
      obtain ⟨k, hk⟩ := List.getElem?_of_mem hv
      have qv := of_decide_eq_true qv
      rw [← wd_cnt_qm hdm hv qv]
      exact hp k v (by have := wd_lt_of hk; omega) hk qv
    | succ n ih =>
      intro i H locs ls hin hp hl hZ
      obtain ⟨u, hi⟩ := wd_some (show i < C.length by omega)
      refine lv_iload_n hF.1 hF.2.1 d_S_suggest_6 rfl (lv_at hl 0 rfl) ?_
      refine lv_aload_n hF.1 hF.2.1 d_S_suggest_7 rfl (lv_at hl 1 rfl) ?_
      refine gf_S_21 hF hZ (0) (by omega) s0 rfl d_S_suggest_8 ?_
      refine gf_S_78 hF hZ (3) (by omega) d1 rfl d_S_suggest_11 ?_
      refine lv_icmp_ge (tgt := 44) hF.1 hF.2.1 d_S_suggest_14 (by decide) (fun h => absurd h (nI_ge (show i < C.length by omega) (by omega))) (fun _ => ?_)
      refine lv_aload_n hF.1 hF.2.1 d_S_suggest_17 rfl (lv_at hl 1 rfl) ?_
      refine gf_S_39 hF hZ (0) (by omega) s0 rfl d_S_suggest_18 ?_
      refine lv_iload_n hF.1 hF.2.1 d_S_suggest_21 rfl (lv_at hl 0 rfl) ?_
      refine z_iald hF hZ (103) (by omega) sF (i) (by omega) (by omega) d_S_suggest_22 ?_
      refine z_top (y := (nI (dist T u))) (hf i u hi) ?_
      refine lv_iload_n hF.1 hF.2.1 d_S_suggest_23 rfl (lv_at hl 3 rfl) ?_
      refine lv_icmp_gt (tgt := 38) hF.1 hF.2.1 d_S_suggest_24 (by decide) (fun q => ?_) (fun q => ?_)
      · have q : ¬ nI (dist T u) ≤ dd := fun z => by
          rw [Int32.lt_iff_toInt_lt] at q; rw [Int32.le_iff_toInt_le] at z; omega
        refine lv_iinc (k := 0) (v := (nI (i + 1))) hF.1 hF.2.1 d_S_suggest_38 hl rfl (iinc_p (i)) (by decide) rfl (fun ls hl => ?_)
        have hl : lv_has ls 4 [(3, .int (nI (i + 1))), (0, .ref (ad (0))), (1, .int (i0)), (2, .int (dd))] := hl
        refine lv_goto (tgt := 6) hF.1 hF.2.1 d_S_suggest_41 (by decide) ?_
        refine ih (i + 1) H locs ls (by omega) (fun k v hk hv qv => ?_) hl hZ
        by_cases y : k = i
        · subst y; cases hi.symm.trans hv; exact absurd qv q
        · exact hp k v (by omega) hv qv
      · have q : nI (dist T u) ≤ dd := by
          rw [Int32.lt_iff_toInt_lt] at q; rw [Int32.le_iff_toInt_le]; omega
        refine lv_aload_n hF.1 hF.2.1 d_S_suggest_27 rfl (lv_at hl 1 rfl) ?_
        refine lv_iload_n hF.1 hF.2.1 d_S_suggest_28 rfl (lv_at hl 0 rfl) ?_
        refine z_calli hZ (z_run cw_S_96 hF hZ (0) (c_S_placeAmongSuggestions l hN h1 sF hf hso hi) (by decide) (by omega) s0 rfl rfl hl.1 rfl (Nat.le_of_ble_eq_true rfl) d_S_suggest_29) (fun v enq H locs hp hZ => ?_)
        obtain ⟨he, hv⟩ := hp
        subst hv
        have hZ := hZ.to he
        refine lv_iload_n hF.1 hF.2.1 d_S_suggest_32 rfl (lv_at hl 2 rfl) ?_
        refine lv_icmp_ne (tgt := 38) hF.1 hF.2.1 d_S_suggest_33 (by decide) (fun y2 => ?_) (fun y2 => ?_)
        · refine lv_iinc (k := 0) (v := (nI (i + 1))) hF.1 hF.2.1 d_S_suggest_38 hl rfl (iinc_p (i)) (by decide) rfl (fun ls hl => ?_)
          have hl : lv_has ls 4 [(3, .int (nI (i + 1))), (0, .ref (ad (0))), (1, .int (i0)), (2, .int (dd))] := hl
          refine lv_goto (tgt := 6) hF.1 hF.2.1 d_S_suggest_41 (by decide) ?_
          refine ih (i + 1) H locs ls (by omega) (fun k v hk hv qv => ?_) hl hZ
          by_cases y : k = i
          · subst y; cases hi.symm.trans hv; exact fun z => y2 z.symm
          · exact hp k v (by omega) hv qv
        · refine lv_iload_n hF.1 hF.2.1 d_S_suggest_36 rfl (lv_at hl 0 rfl) ?_
          exact z_iret hF hr hlocks hZ rfl ⟨Or.inl ⟨i, u, hi, decide_eq_true q, by rw [← wd_cnt_qm hdm (List.mem_of_getElem? hi) q]; exact y2.symm, rfl⟩, h1, hfr⟩ d_S_suggest_37
  refine lv_iconst (v := (nI (0))) hF.1 hF.2.1 d_S_suggest_4 (by decide) ?_
  refine lv_istore_n hF.1 hF.2.1 d_S_suggest_5 rfl hl (by decide) rfl (fun ls hl => ?_)
  have hl : lv_has ls 4 [(3, .int (nI (0))), (0, .ref (ad (0))), (1, .int (i0)), (2, .int (dd))] := hl
  exact loop C.length 0 _ _ ls (by omega) (fun k v hk => absurd hk (Nat.not_lt_zero _)) hl hZ
set_option maxHeartbeats 4000000 in
set_option maxRecDepth 100000 in
theorem c_S_isCompletion (l : Launch) {G : zG} {ad : Nat → Nat} {en : Nat → va_E} {N : Nat} {T : List Nat} {sg : Nat → Nat} {C : List wd_W} (hN : 104 ≤ N) (h : pS G ad en T sg C) {j : Nat} {w : wd_W} (hj : C[j]? = some w) : zMi l y_S_isCompletion b_S_isCompletion 2 .boolean 3 G ad en N [.ref (ad (0)), .int (nI (j))] (fun v en1 => en1 = en ∧ v = bI (wpre w.1 T)) := by
  have hh := h
  obtain ⟨s0, sL, sD, ⟨ME, sE⟩, ⟨MR, sR⟩, fd, sF⟩ := hh
  have hsL := sL
  obtain ⟨e1, l1, l26, f1, e2, l2⟩ := hsL
  have hsD := sD
  obtain ⟨d1, d2, ⟨g0, d3, d3g⟩, d4, d5, d6, d7⟩ := hsD
  have hjl := wd_lt_of hj
  have hsj := d4 j (by omega)
  have hw := d7 j w hj
  have hwL := hw.2.1
  obtain ⟨e5, m1, m26, f5, e6, m2⟩ := hwL
  refine z_met (by decide) (Nat.le_of_ble_eq_true rfl) ?_
  intro p e s m below meth c ls hF hr hlocks hnam hZ hl
  have hF : CallFix p m c b_S_isCompletion 2 s ([.ref (ad (0)), .int (nI (j))] : List Value).toArray zz R_S := hF
  have hl : lv_has ls 2 [(0, .ref (ad (0))), (1, .int (nI (j)))] := hl
  refine lv_aload_n hF.1 hF.2.1 d_S_isCompletion_0 rfl (lv_at hl 0 rfl) ?_
  refine gf_S_21 hF hZ (0) (by omega) s0 rfl d_S_isCompletion_1 ?_
  refine lv_iload_n hF.1 hF.2.1 d_S_isCompletion_4 rfl (lv_at hl 1 rfl) ?_
  refine z_callr hZ (z_run cw_S_82 hF hZ (3) (c_D_lettersOf l (by omega) sD (j := j) hjl) (by decide) (by omega) d1 rfl rfl hl.1 rfl (Nat.le_of_ble_eq_true rfl) d_S_isCompletion_5) (fun v enq H locs hp hZ => ?_)
  obtain ⟨he, hv⟩ := hp
  subst hv
  have hZ := hZ.to he
  refine lv_aload_n hF.1 hF.2.1 d_S_isCompletion_8 rfl (lv_at hl 0 rfl) ?_
  refine gf_S_14 hF hZ (0) (by omega) s0 rfl d_S_isCompletion_9 ?_
  refine z_calli hZ (z_run cw_S_120 hF hZ (6 + 3 * sg (j)) (c_L_beginsWith l (by omega) (by omega) (by omega) (by omega) hw.2.1 (k2 := 1) (ka2 := 2) (by omega) (by omega) (by omega) (by omega) sL) (by decide) (by omega) e5 rfl rfl hl.1 rfl (Nat.le_of_ble_eq_true rfl) d_S_isCompletion_12) (fun v enq H locs hp hZ => ?_)
  obtain ⟨he, hv⟩ := hp
  subst hv
  have hZ := hZ.to he
  exact z_iret hF hr hlocks hZ (bI_nar _) ⟨rfl, rfl⟩ d_S_isCompletion_15
set_option maxHeartbeats 4000000 in
set_option maxRecDepth 100000 in
theorem c_S_placeAmongCompletions (l : Launch) {G : zG} {ad : Nat → Nat} {en : Nat → va_E} {N : Nat} {T : List Nat} {sg : Nat → Nat} {C : List wd_W} (hN : 104 ≤ N) (h : pS G ad en T sg C) (hso : wd_so C) {j : Nat} {w : wd_W} (hj : C[j]? = some w) : zMi l y_S_placeAmongCompletions b_S_placeAmongCompletions 4 .int 4 G ad en N [.ref (ad (0)), .int (nI (j))] (fun v en1 => en1 = en ∧ v = nI (C.countP (fun u => wpre u.1 T && wd_bt (fun _ => 0) u w))) := by
  have hh := h
  obtain ⟨s0, sL, sD, ⟨ME, sE⟩, ⟨MR, sR⟩, fd, sF⟩ := hh
  have hsL := sL
  obtain ⟨e1, l1, l26, f1, e2, l2⟩ := hsL
  have hsD := sD
  obtain ⟨d1, d2, ⟨g0, d3, d3g⟩, d4, d5, d6, d7⟩ := hsD
  have hjl := wd_lt_of hj
  refine z_met (by decide) (Nat.le_of_ble_eq_true rfl) ?_
  intro p e s m below meth c ls hF hr hlocks hnam hZ hl
  have hF : CallFix p m c b_S_placeAmongCompletions 4 s ([.ref (ad (0)), .int (nI (j))] : List Value).toArray zz R_S := hF
  have hl : lv_has ls 4 [(0, .ref (ad (0))), (1, .int (nI (j)))] := hl
  have loop : ∀ (n i c0 : Nat) (H : Heap) (locs : List Loc) (ls : Array Slot), (i + n = C.length) → (c0 = (C.take i).countP (fun u => wpre u.1 T && wd_bt (fun _ => 0) u w)) → lv_has ls 4 [(3, .int (nI (i))), (2, .int (nI (c0))), (0, .ref (ad (0))), (1, .int (nI (j)))] → zH G ad en N s H locs → W p l e (zR 4) s m ([.ref (ad (0)), .int (nI (j))] : List Value).toArray below meth c H locs 0 0 (MQ below (zQi G ad N (fun v en1 => en1 = en ∧ v = nI (C.countP (fun u => wpre u.1 T && wd_bt (fun _ => 0) u w)))) ([.ref (ad (0)), .int (nI (j))] : List Value).toArray s 0 0 (zA G)) (F0 m 4 ls []) := by
    intro n
    induction n with
    | zero =>
      intro i c0 H locs ls hin hp hl hZ
      refine lv_iload_n hF.1 hF.2.1 d_S_placeAmongCompletions_4 rfl (lv_at hl 0 rfl) ?_
      refine lv_aload_n hF.1 hF.2.1 d_S_placeAmongCompletions_5 rfl (lv_at hl 2 rfl) ?_
      refine gf_S_21 hF hZ (0) (by omega) s0 rfl d_S_placeAmongCompletions_6 ?_
      refine gf_S_78 hF hZ (3) (by omega) d1 rfl d_S_placeAmongCompletions_9 ?_
      refine lv_icmp_ge (tgt := 44) hF.1 hF.2.1 d_S_placeAmongCompletions_12 (by decide) (fun _ => ?_) (fun h => absurd (nI_le (by omega) (by omega)) h)
      refine lv_iload_n hF.1 hF.2.1 d_S_placeAmongCompletions_44 rfl (lv_at hl 1 rfl) ?_
      exact z_iret hF hr hlocks hZ rfl ⟨rfl, by rw [hp, List.take_of_length_le (by omega)]⟩ d_S_placeAmongCompletions_45
    | succ n ih =>
      intro i c0 H locs ls hin hp hl hZ
      obtain ⟨u, hi⟩ := wd_some (show i < C.length by omega)
      have hct := wd_cnt_s (fun u => wpre u.1 T && wd_bt (fun _ => 0) u w) hi
      have hr0 := wd_lt_rank hso hi hj
      refine lv_iload_n hF.1 hF.2.1 d_S_placeAmongCompletions_4 rfl (lv_at hl 0 rfl) ?_
      refine lv_aload_n hF.1 hF.2.1 d_S_placeAmongCompletions_5 rfl (lv_at hl 2 rfl) ?_
      refine gf_S_21 hF hZ (0) (by omega) s0 rfl d_S_placeAmongCompletions_6 ?_
      refine gf_S_78 hF hZ (3) (by omega) d1 rfl d_S_placeAmongCompletions_9 ?_
      refine lv_icmp_ge (tgt := 44) hF.1 hF.2.1 d_S_placeAmongCompletions_12 (by decide) (fun h => absurd h (nI_ge (show i < C.length by omega) (by omega))) (fun _ => ?_)
      refine lv_aload_n hF.1 hF.2.1 d_S_placeAmongCompletions_15 rfl (lv_at hl 2 rfl) ?_
      refine lv_iload_n hF.1 hF.2.1 d_S_placeAmongCompletions_16 rfl (lv_at hl 0 rfl) ?_
      refine z_calli hZ (z_run cw_S_99 hF hZ (0) (c_S_isCompletion l hN h hi) (by decide) (by omega) s0 rfl rfl hl.1 rfl (Nat.le_of_ble_eq_true rfl) d_S_placeAmongCompletions_17) (fun v enq H locs hp hZ => ?_)
      obtain ⟨he, hv⟩ := hp
      subst hv
      have hZ := hZ.to he
      refine lv_if_eq (tgt := 38) hF.1 hF.2.1 d_S_placeAmongCompletions_20 (by decide) (fun q => ?_) (fun q => ?_)
      · have q := bI_0.mp q
        refine lv_iinc (k := 0) (v := (nI (i + 1))) hF.1 hF.2.1 d_S_placeAmongCompletions_38 hl rfl (iinc_p (i)) (by decide) rfl (fun ls hl => ?_)
        have hl : lv_has ls 4 [(3, .int (nI (i + 1))), (2, .int (nI (c0))), (0, .ref (ad (0))), (1, .int (nI (j)))] := hl
        refine lv_goto (tgt := 4) hF.1 hF.2.1 d_S_placeAmongCompletions_41 (by decide) ?_
        exact ih (i + 1) c0 H locs ls (by omega) (by rw [hct, q, ← hp]; rfl) hl hZ
      · have q := bI_1 q
        refine lv_aload_n hF.1 hF.2.1 d_S_placeAmongCompletions_23 rfl (lv_at hl 2 rfl) ?_
        refine gf_S_21 hF hZ (0) (by omega) s0 rfl d_S_placeAmongCompletions_24 ?_
        refine lv_iload_n hF.1 hF.2.1 d_S_placeAmongCompletions_27 rfl (lv_at hl 0 rfl) ?_
        refine lv_iload_n hF.1 hF.2.1 d_S_placeAmongCompletions_28 rfl (lv_at hl 3 rfl) ?_
        refine z_calli hZ (z_run cw_S_117 hF hZ (3) (c_D_isPreferred l (by omega) sD hi hj) (by decide) (by omega) d1 rfl rfl hl.1 rfl (Nat.le_of_ble_eq_true rfl) d_S_placeAmongCompletions_29) (fun v enq H locs hp hZ => ?_)
        obtain ⟨he, hv⟩ := hp
        subst hv
        have hZ := hZ.to he
        have hbt : wd_bt (fun _ => 0) u w = if u.2 = w.2 then decide (i < j) else decide (w.2 < u.2) := by unfold wd_bt; rw [if_pos rfl, hr0]
        refine lv_if_eq (tgt := 38) hF.1 hF.2.1 d_S_placeAmongCompletions_32 (by decide) (fun y => ?_) (fun y => ?_)
        · have y := bI_0.mp y
          rw [← hbt] at y
          refine lv_iinc (k := 0) (v := (nI (i + 1))) hF.1 hF.2.1 d_S_placeAmongCompletions_38 hl rfl (iinc_p (i)) (by decide) rfl (fun ls hl => ?_)
          have hl : lv_has ls 4 [(3, .int (nI (i + 1))), (2, .int (nI (c0))), (0, .ref (ad (0))), (1, .int (nI (j)))] := hl
          refine lv_goto (tgt := 4) hF.1 hF.2.1 d_S_placeAmongCompletions_41 (by decide) ?_
          exact ih (i + 1) c0 H locs ls (by omega) (by rw [hct, q, y, ← hp]; rfl) hl hZ
        · have y := bI_1 y
          rw [← hbt] at y
          refine lv_iinc (k := 1) (v := (nI (c0 + 1))) hF.1 hF.2.1 d_S_placeAmongCompletions_35 hl rfl (iinc_p (c0)) (by decide) rfl (fun ls hl => ?_)
          have hl : lv_has ls 4 [(2, .int (nI (c0 + 1))), (3, .int (nI (i))), (0, .ref (ad (0))), (1, .int (nI (j)))] := hl
          refine lv_iinc (k := 1) (v := (nI (i + 1))) hF.1 hF.2.1 d_S_placeAmongCompletions_38 hl rfl (iinc_p (i)) (by decide) rfl (fun ls hl => ?_)
          have hl : lv_has ls 4 [(3, .int (nI (i + 1))), (2, .int (nI (c0 + 1))), (0, .ref (ad (0))), (1, .int (nI (j)))] := hl
          refine lv_goto (tgt := 4) hF.1 hF.2.1 d_S_placeAmongCompletions_41 (by decide) ?_
          exact ih (i + 1) (c0 + 1) H locs ls (by omega) (by rw [hct, q, y, ← hp]; rfl) hl hZ
  refine lv_iconst (v := (nI (0))) hF.1 hF.2.1 d_S_placeAmongCompletions_0 (by decide) ?_
  refine lv_istore_n hF.1 hF.2.1 d_S_placeAmongCompletions_1 rfl hl (by decide) rfl (fun ls hl => ?_)
  have hl : lv_has ls 4 [(2, .int (nI (0))), (0, .ref (ad (0))), (1, .int (nI (j)))] := hl
  refine lv_iconst (v := (nI (0))) hF.1 hF.2.1 d_S_placeAmongCompletions_2 (by decide) ?_
  refine lv_istore_n hF.1 hF.2.1 d_S_placeAmongCompletions_3 rfl hl (by decide) rfl (fun ls hl => ?_)
  have hl : lv_has ls 4 [(3, .int (nI (0))), (2, .int (nI (0))), (0, .ref (ad (0))), (1, .int (nI (j)))] := hl
  exact loop C.length 0 0 _ _ ls (by omega) (by rw [List.take_zero]; rfl) hl hZ
set_option maxHeartbeats 4000000 in
set_option maxRecDepth 100000 in
theorem c_S_complete (l : Launch) {G : zG} {ad : Nat → Nat} {en : Nat → va_E} {N : Nat} {T : List Nat} {sg : Nat → Nat} {C : List wd_W} (hN : 104 ≤ N) (h : pS G ad en T sg C) (hso : wd_so C) {i0 : Int32} : zMi l y_S_complete b_S_complete 3 .int 5 G ad en N [.ref (ad (0)), .int (i0)] (fun v en1 => en1 = en ∧ wd_sug C (fun _ => 0) (fun u => wpre u.1 T) i0 v) := by
  have hh := h
  obtain ⟨s0, sL, sD, ⟨ME, sE⟩, ⟨MR, sR⟩, fd, sF⟩ := hh
  have hsL := sL
  obtain ⟨e1, l1, l26, f1, e2, l2⟩ := hsL
  have hsD := sD
  obtain ⟨d1, d2, ⟨g0, d3, d3g⟩, d4, d5, d6, d7⟩ := hsD
  refine z_met (by decide) (Nat.le_of_ble_eq_true rfl) ?_
  intro p e s m below meth c ls hF hr hlocks hnam hZ hl
  have hF : CallFix p m c b_S_complete 3 s ([.ref (ad (0)), .int (i0)] : List Value).toArray zz R_S := hF
  have hl : lv_has ls 3 [(0, .ref (ad (0))), (1, .int (i0))] := hl
  have loop : ∀ (n i : Nat) (H : Heap) (locs : List Loc) (ls : Array Slot), (i + n = C.length) → (∀ k v, k < i → C[k]? = some v → wpre v.1 T = true → ¬ i0 = nI (C.countP (fun u => wpre u.1 T && wd_bt (fun _ => 0) u v))) → lv_has ls 3 [(2, .int (nI (i))), (0, .ref (ad (0))), (1, .int (i0))] → zH G ad en N s H locs → W p l e (zR 5) s m ([.ref (ad (0)), .int (i0)] : List Value).toArray below meth c H locs 0 0 (MQ below (zQi G ad N (fun v en1 => en1 = en ∧ wd_sug C (fun _ => 0) (fun u => wpre u.1 T) i0 v)) ([.ref (ad (0)), .int (i0)] : List Value).toArray s 0 0 (zA G)) (F0 m 2 ls []) := by
    intro n
    induction n with
    | zero =>
      intro i H locs ls hin hp hl hZ
      refine lv_iload_n hF.1 hF.2.1 d_S_complete_2 rfl (lv_at hl 0 rfl) ?_
      refine lv_aload_n hF.1 hF.2.1 d_S_complete_3 rfl (lv_at hl 1 rfl) ?_
      refine gf_S_21 hF hZ (0) (by omega) s0 rfl d_S_complete_4 ?_
      refine gf_S_78 hF hZ (3) (by omega) d1 rfl d_S_complete_7 ?_
      refine lv_icmp_ge (tgt := 38) hF.1 hF.2.1 d_S_complete_10 (by decide) (fun _ => ?_) (fun h => absurd (nI_le (by omega) (by omega)) h)
      refine lv_iconst (v := ((-1))) hF.1 hF.2.1 d_S_complete_38 (by decide) ?_
      refine z_iret hF hr hlocks hZ rfl ⟨rfl, Or.inr ⟨rfl, fun v hv qv => ?_⟩⟩ d_S_complete_39
      obtain ⟨k, hk⟩ := List.getElem?_of_mem hv
      exact hp k v (by have := wd_lt_of hk; omega) hk qv
    | succ n ih =>
      intro i H locs ls hin hp hl hZ
      obtain ⟨u, hi⟩ := wd_some (show i < C.length by omega)
      refine lv_iload_n hF.1 hF.2.1 d_S_complete_2 rfl (lv_at hl 0 rfl) ?_
      refine lv_aload_n hF.1 hF.2.1 d_S_complete_3 rfl (lv_at hl 1 rfl) ?_
      refine gf_S_21 hF hZ (0) (by omega) s0 rfl d_S_complete_4 ?_
      refine gf_S_78 hF hZ (3) (by omega) d1 rfl d_S_complete_7 ?_
      refine lv_icmp_ge (tgt := 38) hF.1 hF.2.1 d_S_complete_10 (by decide) (fun h => absurd h (nI_ge (show i < C.length by omega) (by omega))) (fun _ => ?_)
      refine lv_aload_n hF.1 hF.2.1 d_S_complete_13 rfl (lv_at hl 1 rfl) ?_
      refine lv_iload_n hF.1 hF.2.1 d_S_complete_14 rfl (lv_at hl 0 rfl) ?_
      refine z_calli hZ (z_run cw_S_99 hF hZ (0) (c_S_isCompletion l hN h hi) (by decide) (by omega) s0 rfl rfl hl.1 rfl (Nat.le_of_ble_eq_true rfl) d_S_complete_15) (fun v enq H locs hp hZ => ?_)
      obtain ⟨he, hv⟩ := hp
      subst hv
      have hZ := hZ.to he
      refine lv_if_eq (tgt := 32) hF.1 hF.2.1 d_S_complete_18 (by decide) (fun q => ?_) (fun q => ?_)
      · have q := bI_0.mp q
        refine lv_iinc (k := 0) (v := (nI (i + 1))) hF.1 hF.2.1 d_S_complete_32 hl rfl (iinc_p (i)) (by decide) rfl (fun ls hl => ?_)
        have hl : lv_has ls 3 [(2, .int (nI (i + 1))), (0, .ref (ad (0))), (1, .int (i0))] := hl
        refine lv_goto (tgt := 2) hF.1 hF.2.1 d_S_complete_35 (by decide) ?_
        refine ih (i + 1) H locs ls (by omega) (fun k v hk hv qv => ?_) hl hZ
        by_cases y : k = i
        · subst y; cases hi.symm.trans hv; rw [q] at qv; cases qv
        · exact hp k v (by omega) hv qv
      · have q := bI_1 q
        refine lv_aload_n hF.1 hF.2.1 d_S_complete_21 rfl (lv_at hl 1 rfl) ?_
        refine lv_iload_n hF.1 hF.2.1 d_S_complete_22 rfl (lv_at hl 0 rfl) ?_
        refine z_calli hZ (z_run cw_S_102 hF hZ (0) (c_S_placeAmongCompletions l hN h hso hi) (by decide) (by omega) s0 rfl rfl hl.1 rfl (Nat.le_of_ble_eq_true rfl) d_S_complete_23) (fun v enq H locs hp hZ => ?_)
        obtain ⟨he, hv⟩ := hp
        subst hv
        have hZ := hZ.to he
        refine lv_iload_n hF.1 hF.2.1 d_S_complete_26 rfl (lv_at hl 2 rfl) ?_
        refine lv_icmp_ne (tgt := 32) hF.1 hF.2.1 d_S_complete_27 (by decide) (fun y2 => ?_) (fun y2 => ?_)
        · refine lv_iinc (k := 0) (v := (nI (i + 1))) hF.1 hF.2.1 d_S_complete_32 hl rfl (iinc_p (i)) (by decide) rfl (fun ls hl => ?_)
          have hl : lv_has ls 3 [(2, .int (nI (i + 1))), (0, .ref (ad (0))), (1, .int (i0))] := hl
          refine lv_goto (tgt := 2) hF.1 hF.2.1 d_S_complete_35 (by decide) ?_
          refine ih (i + 1) H locs ls (by omega) (fun k v hk hv qv => ?_) hl hZ
          by_cases y : k = i
          · subst y; cases hi.symm.trans hv; exact fun z => y2 z.symm
          · exact hp k v (by omega) hv qv
        · refine lv_iload_n hF.1 hF.2.1 d_S_complete_30 rfl (lv_at hl 0 rfl) ?_
          exact z_iret hF hr hlocks hZ rfl ⟨rfl, Or.inl ⟨i, u, hi, q, y2.symm, rfl⟩⟩ d_S_complete_31
  refine lv_iconst (v := (nI (0))) hF.1 hF.2.1 d_S_complete_0 (by decide) ?_
  refine lv_istore_n hF.1 hF.2.1 d_S_complete_1 rfl hl (by decide) rfl (fun ls hl => ?_)
  have hl : lv_has ls 3 [(2, .int (nI (0))), (0, .ref (ad (0))), (1, .int (i0))] := hl
  exact loop C.length 0 _ _ ls (by omega) (fun k v hk => absurd hk (Nat.not_lt_zero _)) hl hZ
