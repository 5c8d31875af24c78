/-! the desk's picture under changes of its parts -/
theorem pS.inp {G : zG} {ad : Nat → Nat} {en en1 : Nat → va_E} {T T1 : List Nat} {sg : Nat → Nat} {C : List wd_W} (h : pS G ad en T sg C) (hL : pL G ad en1 1 2 10 T1) (hfr : ∀ r, r ≠ 1 → r ≠ 2 → en1 r = en r) : pS G ad en1 T1 sg C := by
  obtain ⟨s0, sL, sD, ⟨ME, sE⟩, ⟨MR, sR⟩, fd, sF⟩ := h
  exact ⟨by rw [hfr 0 (by omega) (by omega)]; exact s0, hL, sD.keep (fun r h1 h2 => hfr r (by omega) (by omega)), ⟨ME, sE.keep (fun r h1 h2 => hfr r (by omega) (by omega))⟩, ⟨MR, sR.keep (fun r h1 h2 => hfr r (by omega) (by omega))⟩, fd, by rw [hfr 103 (by omega) (by omega)]; exact sF⟩
theorem pS.dic {G : zG} {ad : Nat → Nat} {en en1 : Nat → va_E} {T : List Nat} {sg sg1 : Nat → Nat} {C C1 : List wd_W} (h : pS G ad en T sg C) (hD : pD G ad en1 sg1 C1) (hfr : ∀ r, r < 3 ∨ 77 ≤ r → en1 r = en r) : pS G ad en1 T sg1 C1 := by
  obtain ⟨s0, sL, sD, ⟨ME, sE⟩, ⟨MR, sR⟩, fd, sF⟩ := h
  exact ⟨by rw [hfr 0 (by omega)]; exact s0, sL.keep (hfr 1 (by omega)) (hfr 2 (by omega)), hD, ⟨ME, sE.keep (fun r h1 h2 => hfr r (by omega))⟩, ⟨MR, sR.keep (fun r h1 h2 => hfr r (by omega))⟩, fd, by rw [hfr 103 (by omega)]; exact sF⟩
theorem pS.edt {G : zG} {ad : Nat → Nat} {en en1 : Nat → va_E} {T : List Nat} {sg : Nat → Nat} {C : List wd_W} (h : pS G ad en T sg C) {M : Nat → Nat → Int32} (hE : pT G ad en1 77 kE 9 M) (hfr : ∀ r, r < 77 ∨ 90 ≤ r → en1 r = en r) : pS G ad en1 T sg C := by
  obtain ⟨s0, sL, sD, ⟨ME, sE⟩, ⟨MR, sR⟩, fd, sF⟩ := h
  exact ⟨by rw [hfr 0 (by omega)]; exact s0, sL.keep (hfr 1 (by omega)) (hfr 2 (by omega)), sD.keep (fun r h1 h2 => hfr r (by omega)), ⟨M, hE⟩, ⟨MR, sR.keep (fun r h1 h2 => hfr r (by omega))⟩, fd, by rw [hfr 103 (by omega)]; exact sF⟩
theorem pS.drp {G : zG} {ad : Nat → Nat} {en en1 : Nat → va_E} {T : List Nat} {sg : Nat → Nat} {C : List wd_W} (h : pS G ad en T sg C) {M : Nat → Nat → Int32} (hE : pT G ad en1 90 kR 11 M) (hfr : ∀ r, r < 90 ∨ 103 ≤ r → en1 r = en r) : pS G ad en1 T sg C := by
  obtain ⟨s0, sL, sD, ⟨ME, sE⟩, ⟨MR, sR⟩, fd, sF⟩ := h
  exact ⟨by rw [hfr 0 (by omega)]; exact s0, sL.keep (hfr 1 (by omega)) (hfr 2 (by omega)), sD.keep (fun r h1 h2 => hfr r (by omega)), ⟨ME, sE.keep (fun r h1 h2 => hfr r (by omega))⟩, ⟨M, hE⟩, fd, by rw [hfr 103 (by omega)]; exact sF⟩
theorem pS.dst {G : zG} {ad : Nat → Nat} {en en1 : Nat → va_E} {T : List Nat} {sg : Nat → Nat} {C : List wd_W} (h : pS G ad en T sg C) {f : Nat → Int32} (hE : en1 103 = .inl (zI G, 24, .inl f)) (hfr : ∀ r, r ≠ 103 → en1 r = en r) : pS G ad en1 T sg C := by
  obtain ⟨s0, sL, sD, ⟨ME, sE⟩, ⟨MR, sR⟩, fd, sF⟩ := h
  exact ⟨by rw [hfr 0 (by omega)]; exact s0, sL.keep (hfr 1 (by omega)) (hfr 2 (by omega)), sD.keep (fun r h1 h2 => hfr r (by omega)), ⟨ME, sE.keep (fun r h1 h2 => hfr r (by omega))⟩, ⟨MR, sR.keep (fun r h1 h2 => hfr r (by omega))⟩, f, hE⟩
/-- how far a word is from what is typed -/
def dist (T : List Nat) (u : wd_W) : Nat := ed_d T u.1 0 0
theorem bI_1 {b : Bool} (h : ¬ bI b = 0) : b = true := by cases b with
  | false => exact absurd rfl h
  | true => rfl
set_option maxHeartbeats 4000000 in
set_option maxRecDepth 100000 in
theorem c_S_key (l : Launch) {G : zG} {ad : Nat → Nat} {en : Nat → va_E} {N : Nat} {T : List Nat} {sg : Nat → Nat} {C : List wd_W} (hN : 104 ≤ N) (h : pS G ad en T sg C) {x : Nat} (hx : x < 26) (hlen : T.length < 10) : zMi l y_S_key b_S_key 2 .boolean 2 G ad en N [.ref (ad (0)), .int (nI (x))] (fun v en1 => v = 1 ∧ pS G ad en1 (T ++ [x]) sg C ∧ ∀ r, 104 ≤ r → en1 r = en r) := by
  have hh := h
  obtain ⟨s0, sL, sD, ⟨ME, sE⟩, ⟨MR, sR⟩, fd, sF⟩ := hh
  have hsL := sL
  obtain ⟨e1, l1, l26, f1, e2, l2⟩ := hsL
  have hsD := sD
  obtain ⟨d1, d2, ⟨g0, d3, d3g⟩, d4, d5, d6, d7⟩ := hsD
  refine z_met (by decide) (Nat.le_of_ble_eq_true rfl) ?_
  intro p e s m below meth c ls hF hr hlocks hnam hZ hl
  have hF : CallFix p m c b_S_key 2 s ([.ref (ad (0)), .int (nI (x))] : List Value).toArray zz R_S := hF
  have hl : lv_has ls 2 [(0, .ref (ad (0))), (1, .int (nI (x)))] := hl
  refine lv_aload_n hF.1 hF.2.1 d_S_key_0 rfl (lv_at hl 0 rfl) ?_
  refine gf_S_14 hF hZ (0) (by omega) s0 rfl d_S_key_1 ?_
  refine lv_iload_n hF.1 hF.2.1 d_S_key_4 rfl (lv_at hl 1 rfl) ?_
  refine z_calli hZ (z_run cw_S_43 hF hZ (1) (c_L_append l (k := 1) (ka := 2) (by omega) (by omega) (by omega) (by omega) sL hx hlen) (by decide) (by omega) e1 rfl rfl hl.1 rfl (Nat.le_of_ble_eq_true rfl) d_S_key_5) (fun v en1 H locs hq hZ => ?_)
  obtain ⟨hv, hq1, hq2⟩ := hq
  subst hv
  exact z_iret hF hr hlocks hZ (by decide) ⟨rfl, h.inp hq1 hq2, fun r hr => hq2 r (by omega) (by omega)⟩ d_S_key_8
set_option maxHeartbeats 4000000 in
set_option maxRecDepth 100000 in
theorem c_S_keyNo (l : Launch) {G : zG} {ad : Nat → Nat} {en : Nat → va_E} {N : Nat} {T : List Nat} {sg : Nat → Nat} {C : List wd_W} (hN : 104 ≤ N) (h : pS G ad en T sg C) {x : Int32} (hno : x < 0 ∨ nI 26 ≤ x ∨ 10 ≤ T.length) : zMi l y_S_key b_S_key 2 .boolean 2 G ad en N [.ref (ad (0)), .int (x)] (fun v en1 => v = 0 ∧ en1 = en) := by
  have hh := h
  obtain ⟨s0, sL, sD, ⟨ME, sE⟩, ⟨MR, sR⟩, fd, sF⟩ := hh
  have hsL := sL
  obtain ⟨e1, l1, l26, f1, e2, l2⟩ := hsL
  have hsD := sD
  obtain ⟨d1, d2, ⟨g0, d3, d3g⟩, d4, d5, d6, d7⟩ := hsD
  refine z_met (by decide) (Nat.le_of_ble_eq_true rfl) ?_
  intro p e s m below meth c ls hF hr hlocks hnam hZ hl
  have hF : CallFix p m c b_S_key 2 s ([.ref (ad (0)), .int (x)] : List Value).toArray zz R_S := hF
  have hl : lv_has ls 2 [(0, .ref (ad (0))), (1, .int (x))] := hl
  refine lv_aload_n hF.1 hF.2.1 d_S_key_0 rfl (lv_at hl 0 rfl) ?_
  refine gf_S_14 hF hZ (0) (by omega) s0 rfl d_S_key_1 ?_
  refine lv_iload_n hF.1 hF.2.1 d_S_key_4 rfl (lv_at hl 1 rfl) ?_
  refine z_calli hZ (z_run cw_S_43 hF hZ (1) (c_L_appendNo l (k := 1) (ka := 2) (by omega) (by omega) (by omega) (by omega) sL hno) (by decide) (by omega) e1 rfl rfl hl.1 rfl (Nat.le_of_ble_eq_true rfl) d_S_key_5) (fun v en1 H locs hq hZ => ?_)
  obtain ⟨hv, hq1⟩ := hq
  subst hv
  exact z_iret hF hr hlocks hZ (by decide) ⟨rfl, hq1⟩ d_S_key_8
set_option maxHeartbeats 4000000 in
set_option maxRecDepth 100000 in
theorem c_S_back (l : Launch) {G : zG} {ad : Nat → Nat} {en : Nat → va_E} {N : Nat} {T : List Nat} {sg : Nat → Nat} {C : List wd_W} (hN : 104 ≤ N) (h : pS G ad en T sg C) (hlen : 0 < T.length) : zMi l y_S_back b_S_back 1 .boolean 2 G ad en N [.ref (ad (0))] (fun v en1 => v = 1 ∧ pS G ad en1 (T.take (T.length - 1)) sg C ∧ ∀ r, 104 ≤ r → en1 r = en r) := by
  have hh := h
  obtain ⟨s0, sL, sD, ⟨ME, sE⟩, ⟨MR, sR⟩, fd, sF⟩ := hh
  have hsL := sL
  obtain ⟨e1, l1, l26, f1, e2, l2⟩ := hsL
  have hsD := sD
  obtain ⟨d1, d2, ⟨g0, d3, d3g⟩, d4, d5, d6, d7⟩ := hsD
  refine z_met (by decide) (Nat.le_of_ble_eq_true rfl) ?_
  intro p e s m below meth c ls hF hr hlocks hnam hZ hl
  have hF : CallFix p m c b_S_back 1 s ([.ref (ad (0))] : List Value).toArray zz R_S := hF
  have hl : lv_has ls 1 [(0, .ref (ad (0)))] := hl
  refine lv_aload_n hF.1 hF.2.1 d_S_back_0 rfl (lv_at hl 0 rfl) ?_
  refine gf_S_14 hF hZ (0) (by omega) s0 rfl d_S_back_1 ?_
  refine z_calli hZ (z_run cw_S_47 hF hZ (1) (c_L_removeLast l (k := 1) (ka := 2) (by omega) (by omega) (by omega) (by omega) sL hlen) (by decide) (by omega) e1 rfl rfl hl.1 rfl (Nat.le_of_ble_eq_true rfl) d_S_back_4) (fun v en1 H locs hq hZ => ?_)
  obtain ⟨hv, hq1, hq2⟩ := hq
  subst hv
  exact z_iret hF hr hlocks hZ (by decide) ⟨rfl, h.inp hq1 (fun r q1 _ => hq2 r q1), fun r hr => hq2 r (by omega)⟩ d_S_back_7
set_option maxHeartbeats 4000000 in
set_option maxRecDepth 100000 in
theorem c_S_backNo (l : Launch) {G : zG} {ad : Nat → Nat} {en : Nat → va_E} {N : Nat} {T : List Nat} {sg : Nat → Nat} {C : List wd_W} (hN : 104 ≤ N) (h : pS G ad en T sg C) (hlen : T.length = 0) : zMi l y_S_back b_S_back 1 .boolean 2 G ad en N [.ref (ad (0))] (fun v en1 => v = 0 ∧ en1 = en) := by
  have hh := h
  obtain ⟨s0, sL, sD, ⟨ME, sE⟩, ⟨MR, sR⟩, fd, sF⟩ := hh
  have hsL := sL
  obtain ⟨e1, l1, l26, f1, e2, l2⟩ := hsL
  have hsD := sD
  obtain ⟨d1, d2, ⟨g0, d3, d3g⟩, d4, d5, d6, d7⟩ := hsD
  refine z_met (by decide) (Nat.le_of_ble_eq_true rfl) ?_
  intro p e s m below meth c ls hF hr hlocks hnam hZ hl
  have hF : CallFix p m c b_S_back 1 s ([.ref (ad (0))] : List Value).toArray zz R_S := hF
  have hl : lv_has ls 1 [(0, .ref (ad (0)))] := hl
  refine lv_aload_n hF.1 hF.2.1 d_S_back_0 rfl (lv_at hl 0 rfl) ?_
  refine gf_S_14 hF hZ (0) (by omega) s0 rfl d_S_back_1 ?_
  refine z_calli hZ (z_run cw_S_47 hF hZ (1) (c_L_removeLastNo l (k := 1) (ka := 2) (by omega) (by omega) (by omega) (by omega) sL hlen) (by decide) (by omega) e1 rfl rfl hl.1 rfl (Nat.le_of_ble_eq_true rfl) d_S_back_4) (fun v en1 H locs hq hZ => ?_)
  obtain ⟨hv, hq1⟩ := hq
  subst hv
  exact z_iret hF hr hlocks hZ (by decide) ⟨rfl, hq1⟩ d_S_back_7
set_option maxHeartbeats 4000000 in
set_option maxRecDepth 100000 in
theorem c_S_wipe (l : Launch) {G : zG} {ad : Nat → Nat} {en : Nat → va_E} {N : Nat} {T : List Nat} {sg : Nat → Nat} {C : List wd_W} (hN : 104 ≤ N) (h : pS G ad en T sg C) : zMv l y_S_wipe b_S_wipe 1 2 G ad en N [.ref (ad (0))] (fun en1 => pS G ad en1 [] sg C ∧ ∀ r, 104 ≤ r → en1 r = en r) := by
  have hh := h
  obtain ⟨s0, sL, sD, ⟨ME, sE⟩, ⟨MR, sR⟩, fd, sF⟩ := hh
  have hsL := sL
  obtain ⟨e1, l1, l26, f1, e2, l2⟩ := hsL
  have hsD := sD
  obtain ⟨d1, d2, ⟨g0, d3, d3g⟩, d4, d5, d6, d7⟩ := hsD
  refine z_met (by decide) (Nat.le_of_ble_eq_true rfl) ?_
  intro p e s m below meth c ls hF hr hlocks hnam hZ hl
  have hF : CallFix p m c b_S_wipe 1 s ([.ref (ad (0))] : List Value).toArray zz R_S := hF
  have hl : lv_has ls 1 [(0, .ref (ad (0)))] := hl
  refine lv_aload_n hF.1 hF.2.1 d_S_wipe_0 rfl (lv_at hl 0 rfl) ?_
  refine gf_S_14 hF hZ (0) (by omega) s0 rfl d_S_wipe_1 ?_
  refine z_callv hZ (z_run cw_S_51 hF hZ (1) (c_L_clear l (k := 1) (ka := 2) (by omega) (by omega) (by omega) (by omega) sL) (by decide) (by omega) e1 rfl rfl hl.1 rfl (Nat.le_of_ble_eq_true rfl) d_S_wipe_4) (fun en1 H locs hq hZ => ?_)
  obtain ⟨hq1, hq2⟩ := hq
  exact z_vret hF hr hlocks hZ ⟨h.inp hq1 (fun r q1 _ => hq2 r q1), fun r hr => hq2 r (by omega)⟩ d_S_wipe_7
set_option maxHeartbeats 4000000 in
set_option maxRecDepth 100000 in
theorem c_S_length (l : Launch) {G : zG} {ad : Nat → Nat} {en : Nat → va_E} {N : Nat} {T : List Nat} {sg : Nat → Nat} {C : List wd_W} (hN : 104 ≤ N) (h : pS G ad en T sg C) : zMi l y_S_length b_S_length 1 .int 1 G ad en N [.ref (ad (0))] (fun v en1 => en1 = en ∧ v = nI T.length) := by
  have hh := h
  obtain ⟨s0, sL, sD, ⟨ME, sE⟩, ⟨MR, sR⟩, fd, sF⟩ := hh
  have hsL := sL
  obtain ⟨e1, l1, l26, f1, e2, l2⟩ := hsL
  have hsD := sD
  obtain ⟨d1, d2, ⟨g0, d3, d3g⟩, d4, d5, d6, d7⟩ := hsD
  refine z_met (by decide) (Nat.le_of_ble_eq_true rfl) ?_
  intro p e s m below meth c ls hF hr hlocks hnam hZ hl
  have hF : CallFix p m c b_S_length 1 s ([.ref (ad (0))] : List Value).toArray zz R_S := hF
  have hl : lv_has ls 1 [(0, .ref (ad (0)))] := hl
  refine lv_aload_n hF.1 hF.2.1 d_S_length_0 rfl (lv_at hl 0 rfl) ?_
  refine gf_S_14 hF hZ (0) (by omega) s0 rfl d_S_length_1 ?_
  refine gf_S_54 hF hZ (1) (by omega) e1 rfl d_S_length_4 ?_
  exact z_iret hF hr hlocks hZ rfl ⟨rfl, rfl⟩ d_S_length_7
set_option maxHeartbeats 4000000 in
set_option maxRecDepth 100000 in
theorem c_S_typed (l : Launch) {G : zG} {ad : Nat → Nat} {en : Nat → va_E} {N : Nat} {T : List Nat} {sg : Nat → Nat} {C : List wd_W} (hN : 104 ≤ N) (h : pS G ad en T sg C) {i : Int32} : zMi l y_S_typed b_S_typed 2 .int 2 G ad en N [.ref (ad (0)), .int (i)] (fun v en1 => en1 = en ∧ v = iv (atv T i)) := by
  have hh := h
  obtain ⟨s0, sL, sD, ⟨ME, sE⟩, ⟨MR, sR⟩, fd, sF⟩ := hh
  have hsL := sL
  obtain ⟨e1, l1, l26, f1, e2, l2⟩ := hsL
  have hsD := sD
  obtain ⟨d1, d2, ⟨g0, d3, d3g⟩, d4, d5, d6, d7⟩ := hsD
  refine z_met (by decide) (Nat.le_of_ble_eq_true rfl) ?_
  intro p e s m below meth c ls hF hr hlocks hnam hZ hl
  have hF : CallFix p m c b_S_typed 2 s ([.ref (ad (0)), .int (i)] : List Value).toArray zz R_S := hF
  have hl : lv_has ls 2 [(0, .ref (ad (0))), (1, .int (i))] := hl
  refine lv_aload_n hF.1 hF.2.1 d_S_typed_0 rfl (lv_at hl 0 rfl) ?_
  refine gf_S_14 hF hZ (0) (by omega) s0 rfl d_S_typed_1 ?_
  refine lv_iload_n hF.1 hF.2.1 d_S_typed_4 rfl (lv_at hl 1 rfl) ?_
  refine z_calli hZ (z_run cw_S_58 hF hZ (1) (c_L_at l (k := 1) (ka := 2) (by omega) (by omega) (by omega) (by omega) sL i) (by decide) (by omega) e1 rfl rfl hl.1 rfl (Nat.le_of_ble_eq_true rfl) d_S_typed_5) (fun v enq H locs hp hZ => ?_)
  obtain ⟨he, hv⟩ := hp
  subst hv
  have hZ := hZ.to he
  exact z_iret hF hr hlocks hZ rfl ⟨rfl, rfl⟩ d_S_typed_8
set_option maxHeartbeats 4000000 in
set_option maxRecDepth 100000 in
theorem c_S_learnN (l : Launch) {G : zG} {ad : Nat → Nat} {en : Nat → va_E} {N : Nat} {T : List Nat} {sg : Nat → Nat} {C : List wd_W} (hN : 104 ≤ N) (h : pS G ad en T sg C) {n : Int32} (hno : n < nI 1 ∨ nI 1000000 < n) : zMi l y_S_learn b_S_learn 3 .int 5 G ad en N [.ref (ad (0)), .int (n)] (fun v en1 => v = -1 ∧ en1 = en) := by
  have hh := h
  obtain ⟨s0, sL, sD, ⟨ME, sE⟩, ⟨MR, sR⟩, fd, sF⟩ := hh
  have hsL := sL
  obtain ⟨e1, l1, l26, f1, e2, l2⟩ := hsL
  have hsD := sD
  obtain ⟨d1, d2, ⟨g0, d3, d3g⟩, d4, d5, d6, d7⟩ := hsD
  refine z_met (by decide) (Nat.le_of_ble_eq_true rfl) ?_
  intro p e s m below meth c ls hF hr hlocks hnam hZ hl
  have hF : CallFix p m c b_S_learn 3 s ([.ref (ad (0)), .int (n)] : List Value).toArray zz R_S := hF
  have hl : lv_has ls 3 [(0, .ref (ad (0))), (1, .int (n))] := hl
  refine lv_iload_n hF.1 hF.2.1 d_S_learn_0 rfl (lv_at hl 1 rfl) ?_
  refine lv_iconst (v := (nI (1))) hF.1 hF.2.1 d_S_learn_1 (by decide) ?_
  refine lv_icmp_lt (tgt := 11) hF.1 hF.2.1 d_S_learn_2 (by decide) (fun q => ?_) (fun q => ?_)
  · refine lv_iconst (v := ((-1))) hF.1 hF.2.1 d_S_learn_11 (by decide) ?_
    exact z_iret hF hr hlocks hZ rfl ⟨rfl, rfl⟩ d_S_learn_12
  · refine lv_iload_n hF.1 hF.2.1 d_S_learn_5 rfl (lv_at hl 1 rfl) ?_
    refine lv_ldc hF.1 hF.2.1 hF.2.2.2.1 (hF.2.2.2.2 _ cn_S_62) d_S_learn_6 ?_
    refine z_top (show (1000000 : Int32) = nI 1000000 by decide) ?_
    refine lv_icmp_le (tgt := 13) hF.1 hF.2.1 d_S_learn_8 (by decide) (fun q2 => ?_) (fun q2 => ?_)
    · exact absurd (hno.resolve_left q) (fun z => by
        rw [Int32.lt_iff_toInt_lt] at z; rw [Int32.le_iff_toInt_le] at q2; omega)
    · refine lv_iconst (v := ((-1))) hF.1 hF.2.1 d_S_learn_11 (by decide) ?_
      exact z_iret hF hr hlocks hZ rfl ⟨rfl, rfl⟩ d_S_learn_12
set_option maxHeartbeats 4000000 in
set_option maxRecDepth 100000 in
theorem c_S_learnL (l : Launch) {G : zG} {ad : Nat → Nat} {en : Nat → va_E} {N : Nat} {T : List Nat} {sg : Nat → Nat} {C : List wd_W} (hN : 104 ≤ N) (h : pS G ad en T sg C) {t : Nat} (ht1 : 1 ≤ t) (ht2 : t ≤ 1000000) (hno : T.length = 0 ∨ 8 < T.length) : zMi l y_S_learn b_S_learn 3 .int 5 G ad en N [.ref (ad (0)), .int (nI (t))] (fun v en1 => v = -2 ∧ en1 = en) := by
  have hh := h
  obtain ⟨s0, sL, sD, ⟨ME, sE⟩, ⟨MR, sR⟩, fd, sF⟩ := hh
  have hsL := sL
  obtain ⟨e1, l1, l26, f1, e2, l2⟩ := hsL
  have hsD := sD
  obtain ⟨d1, d2, ⟨g0, d3, d3g⟩, d4, d5, d6, d7⟩ := hsD
  refine z_met (by decide) (Nat.le_of_ble_eq_true rfl) ?_
  intro p e s m below meth c ls hF hr hlocks hnam hZ hl
  have hF : CallFix p m c b_S_learn 3 s ([.ref (ad (0)), .int (nI (t))] : List Value).toArray zz R_S := hF
  have hl : lv_has ls 3 [(0, .ref (ad (0))), (1, .int (nI (t)))] := hl
  refine lv_iload_n hF.1 hF.2.1 d_S_learn_0 rfl (lv_at hl 1 rfl) ?_
  refine lv_iconst (v := (nI (1))) hF.1 hF.2.1 d_S_learn_1 (by decide) ?_
  refine lv_icmp_lt (tgt := 11) hF.1 hF.2.1 d_S_learn_2 (by decide) (fun h => absurd h (nI_nlt ht1 (by omega))) (fun _ => ?_)
  refine lv_iload_n hF.1 hF.2.1 d_S_learn_5 rfl (lv_at hl 1 rfl) ?_
  refine lv_ldc hF.1 hF.2.1 hF.2.2.2.1 (hF.2.2.2.2 _ cn_S_62) d_S_learn_6 ?_
  refine z_top (show (1000000 : Int32) = nI 1000000 by decide) ?_
  refine lv_icmp_le (tgt := 13) hF.1 hF.2.1 d_S_learn_8 (by decide) (fun _ => ?_) (fun h => absurd (nI_le ht2 (by omega)) h)
  refine lv_aload_n hF.1 hF.2.1 d_S_learn_13 rfl (lv_at hl 0 rfl) ?_
  refine gf_S_14 hF hZ (0) (by omega) s0 rfl d_S_learn_14 ?_
  refine gf_S_54 hF hZ (1) (by omega) e1 rfl d_S_learn_17 ?_
  refine lv_iconst (v := (nI (1))) hF.1 hF.2.1 d_S_learn_20 (by decide) ?_
  refine lv_icmp_lt (tgt := 36) hF.1 hF.2.1 d_S_learn_21 (by decide) (fun q => ?_) (fun q => ?_)
  · refine lv_bipush (v := ((-2))) hF.1 hF.2.1 d_S_learn_36 (by decide) ?_
    exact z_iret hF hr hlocks hZ rfl ⟨rfl, rfl⟩ d_S_learn_38
  · have q : ¬ T.length < 1 := fun z => q (nI_lt z (by omega))
    refine lv_aload_n hF.1 hF.2.1 d_S_learn_24 rfl (lv_at hl 0 rfl) ?_
    refine gf_S_14 hF hZ (0) (by omega) s0 rfl d_S_learn_25 ?_
    refine gf_S_54 hF hZ (1) (by omega) e1 rfl d_S_learn_28 ?_
    refine lv_bipush (v := (nI (8))) hF.1 hF.2.1 d_S_learn_31 (by decide) ?_
    refine lv_icmp_le (tgt := 39) hF.1 hF.2.1 d_S_learn_33 (by decide) (fun h => absurd h (nI_ge (show 8 < T.length by omega) (by omega))) (fun _ => ?_)
    refine lv_bipush (v := ((-2))) hF.1 hF.2.1 d_S_learn_36 (by decide) ?_
    exact z_iret hF hr hlocks hZ rfl ⟨rfl, rfl⟩ d_S_learn_38
set_option maxHeartbeats 4000000 in
set_option maxRecDepth 100000 in
theorem c_S_learn (l : Launch) {G : zG} {ad : Nat → Nat} {en : Nat → va_E} {N : Nat} {T : List Nat} {sg : Nat → Nat} {C : List wd_W} (hN : 104 ≤ N) (h : pS G ad en T sg C) {t : Nat} (ht1 : 1 ≤ t) (ht2 : t ≤ 1000000) (hl1 : 1 ≤ T.length) (hl2 : T.length ≤ 8) : zMi l y_S_learn b_S_learn 3 .int 5 G ad en N [.ref (ad (0)), .int (nI (t))] (fun v en1 => ((∀ r, 104 ≤ r → en1 r = en r)) ∧ ((∃ k w, C[k]? = some w ∧ w.1 = T ∧ v = 1 ∧ pS G ad en1 T sg (C.set k (w.1, min 1000000 (w.2 + t)))) ∨ ((∀ w ∈ C, w.1 ≠ T) ∧ ((C.length < 24 ∧ v = 0 ∧ ∃ sg1, pS G ad en1 T sg1 (C.take (C.countP (fun w => wd_lt w.1 T)) ++ (T, t) :: C.drop (C.countP (fun w => wd_lt w.1 T)))) ∨ (¬ C.length < 24 ∧ v = -3 ∧ pS G ad en1 T sg C))))) := by
  have hh := h
  obtain ⟨s0, sL, sD, ⟨ME, sE⟩, ⟨MR, sR⟩, fd, sF⟩ := hh
  have hsL := sL
  obtain ⟨e1, l1, l26, f1, e2, l2⟩ := hsL
  have hsD := sD
  obtain ⟨d1, d2, ⟨g0, d3, d3g⟩, d4, d5, d6, d7⟩ := hsD
  refine z_met (by decide) (Nat.le_of_ble_eq_true rfl) ?_
  intro p e s m below meth c ls hF hr hlocks hnam hZ hl
  have hF : CallFix p m c b_S_learn 3 s ([.ref (ad (0)), .int (nI (t))] : List Value).toArray zz R_S := hF
  have hl : lv_has ls 3 [(0, .ref (ad (0))), (1, .int (nI (t)))] := hl
  refine lv_iload_n hF.1 hF.2.1 d_S_learn_0 rfl (lv_at hl 1 rfl) ?_
  refine lv_iconst (v := (nI (1))) hF.1 hF.2.1 d_S_learn_1 (by decide) ?_
  refine lv_icmp_lt (tgt := 11) hF.1 hF.2.1 d_S_learn_2 (by decide) (fun h => absurd h (nI_nlt ht1 (by omega))) (fun _ => ?_)
  refine lv_iload_n hF.1 hF.2.1 d_S_learn_5 rfl (lv_at hl 1 rfl) ?_
  refine lv_ldc hF.1 hF.2.1 hF.2.2.2.1 (hF.2.2.2.2 _ cn_S_62) d_S_learn_6 ?_
  refine z_top (show (1000000 : Int32) = nI 1000000 by decide) ?_
  refine lv_icmp_le (tgt := 13) hF.1 hF.2.1 d_S_learn_8 (by decide) (fun _ => ?_) (fun h => absurd (nI_le ht2 (by omega)) h)
  refine lv_aload_n hF.1 hF.2.1 d_S_learn_13 rfl (lv_at hl 0 rfl) ?_
  refine gf_S_14 hF hZ (0) (by omega) s0 rfl d_S_learn_14 ?_
  refine gf_S_54 hF hZ (1) (by omega) e1 rfl d_S_learn_17 ?_
  refine lv_iconst (v := (nI (1))) hF.1 hF.2.1 d_S_learn_20 (by decide) ?_
  refine lv_icmp_lt (tgt := 36) hF.1 hF.2.1 d_S_learn_21 (by decide) (fun h => absurd h (nI_nlt hl1 (by omega))) (fun _ => ?_)
  refine lv_aload_n hF.1 hF.2.1 d_S_learn_24 rfl (lv_at hl 0 rfl) ?_
  refine gf_S_14 hF hZ (0) (by omega) s0 rfl d_S_learn_25 ?_
  refine gf_S_54 hF hZ (1) (by omega) e1 rfl d_S_learn_28 ?_
  refine lv_bipush (v := (nI (8))) hF.1 hF.2.1 d_S_learn_31 (by decide) ?_
  refine lv_icmp_le (tgt := 39) hF.1 hF.2.1 d_S_learn_33 (by decide) (fun _ => ?_) (fun h => absurd (nI_le hl2 (by omega)) h)
  refine lv_aload_n hF.1 hF.2.1 d_S_learn_39 rfl (lv_at hl 0 rfl) ?_
  refine gf_S_21 hF hZ (0) (by omega) s0 rfl d_S_learn_40 ?_
  refine lv_aload_n hF.1 hF.2.1 d_S_learn_43 rfl (lv_at hl 0 rfl) ?_
  refine gf_S_14 hF hZ (0) (by omega) s0 rfl d_S_learn_44 ?_
  refine z_calli hZ (z_run cw_S_63 hF hZ (3) (c_D_find l (by omega) sD (k2 := 1) (ka2 := 2) (by omega) (by omega) (by omega) (by omega) sL) (by decide) (by omega) d1 rfl rfl hl.1 rfl (Nat.le_of_ble_eq_true rfl) d_S_learn_47) (fun v enq H locs hp hZ => ?_)
  obtain ⟨he, hd⟩ := hp
  have hZ := hZ.to he
  rcases hd with ⟨k, u, hk, hu, hv⟩ | ⟨hv, hno⟩
  · subst hv
    have hkl := wd_lt_of hk
    refine lv_istore_n hF.1 hF.2.1 d_S_learn_50 rfl hl (by decide) rfl (fun ls hl => ?_)
    have hl : lv_has ls 3 [(2, .int (nI (k))), (0, .ref (ad (0))), (1, .int (nI (t)))] := hl
    refine lv_iload_n hF.1 hF.2.1 d_S_learn_51 rfl (lv_at hl 0 rfl) ?_
    refine lv_iconst (v := ((-1))) hF.1 hF.2.1 d_S_learn_52 (by decide) ?_
    refine lv_icmp_eq (tgt := 67) hF.1 hF.2.1 d_S_learn_53 (by decide) (fun h => absurd h (nI_m1 (by omega))) (fun _ => ?_)
    refine lv_aload_n hF.1 hF.2.1 d_S_learn_56 rfl (lv_at hl 1 rfl) ?_
    refine gf_S_21 hF hZ (0) (by omega) s0 rfl d_S_learn_57 ?_
    refine lv_iload_n hF.1 hF.2.1 d_S_learn_60 rfl (lv_at hl 0 rfl) ?_
    refine lv_iload_n hF.1 hF.2.1 d_S_learn_61 rfl (lv_at hl 2 rfl) ?_
    refine z_callv hZ (z_run cw_S_67 hF hZ (3) (c_D_addTimes l (by omega) sD hk ht2) (by decide) (by omega) d1 rfl rfl hl.1 rfl (Nat.le_of_ble_eq_true rfl) d_S_learn_62) (fun en1 H locs hq hZ => ?_)
    obtain ⟨hq1, hq2⟩ := hq
    refine lv_iconst (v := (nI (1))) hF.1 hF.2.1 d_S_learn_65 (by decide) ?_
    exact z_iret hF hr hlocks hZ rfl ⟨fun r hr => hq2 r (by omega), Or.inl ⟨k, u, hk, hu, rfl, h.dic hq1 hq2⟩⟩ d_S_learn_66
  · subst hv
    refine lv_istore_n hF.1 hF.2.1 d_S_learn_50 rfl hl (by decide) rfl (fun ls hl => ?_)
    have hl : lv_has ls 3 [(2, .int ((-1))), (0, .ref (ad (0))), (1, .int (nI (t)))] := hl
    refine lv_iload_n hF.1 hF.2.1 d_S_learn_51 rfl (lv_at hl 0 rfl) ?_
    refine lv_iconst (v := ((-1))) hF.1 hF.2.1 d_S_learn_52 (by decide) ?_
    refine lv_icmp_eq (tgt := 67) hF.1 hF.2.1 d_S_learn_53 (by decide) (fun _ => ?_) (fun h => absurd rfl h)
    refine lv_aload_n hF.1 hF.2.1 d_S_learn_67 rfl (lv_at hl 1 rfl) ?_
    refine gf_S_21 hF hZ (0) (by omega) s0 rfl d_S_learn_68 ?_
    refine lv_aload_n hF.1 hF.2.1 d_S_learn_71 rfl (lv_at hl 1 rfl) ?_
    refine gf_S_14 hF hZ (0) (by omega) s0 rfl d_S_learn_72 ?_
    refine lv_iload_n hF.1 hF.2.1 d_S_learn_75 rfl (lv_at hl 2 rfl) ?_
    by_cases hfull : C.length < 24
    · refine z_calli hZ (z_run cw_S_71 hF hZ (3) (c_D_insert l (by omega) sD (k2 := 1) (ka2 := 2) (by omega) (by omega) (by omega) (by omega) sL (by omega) (by omega) hl2 ht2 hfull) (by decide) (by omega) d1 rfl rfl hl.1 rfl (Nat.le_of_ble_eq_true rfl) d_S_learn_76) (fun v en1 H locs hq hZ => ?_)
      obtain ⟨hv, ⟨sg1, hq1⟩, hq2⟩ := hq
      subst hv
      refine lv_if_eq (tgt := 86) hF.1 hF.2.1 d_S_learn_79 (by decide) (fun h => absurd h (by decide)) (fun _ => ?_)
      refine lv_iconst (v := (nI (0))) hF.1 hF.2.1 d_S_learn_82 (by decide) ?_
      refine lv_goto (tgt := 88) hF.1 hF.2.1 d_S_learn_83 (by decide) ?_
      exact z_iret hF hr hlocks hZ rfl ⟨fun r hr => hq2 r (by omega), Or.inr ⟨hno, Or.inl ⟨hfull, rfl, sg1, h.dic hq1 hq2⟩⟩⟩ d_S_learn_88
    · refine z_calli hZ (z_run cw_S_71 hF hZ (3) (c_D_insertNo l (by omega) sD (k2 := 1) (ka2 := 2) (by omega) (by omega) (by omega) (by omega) sL hfull) (by decide) (by omega) d1 rfl rfl hl.1 rfl (Nat.le_of_ble_eq_true rfl) d_S_learn_76) (fun v en1 H locs hq hZ => ?_)
      obtain ⟨hv, hq1⟩ := hq
      subst hv
      have hZ := hZ.to hq1
      refine lv_if_eq (tgt := 86) hF.1 hF.2.1 d_S_learn_79 (by decide) (fun _ => ?_) (fun h => absurd rfl h)
      refine lv_bipush (v := ((-3))) hF.1 hF.2.1 d_S_learn_86 (by decide) ?_
      exact z_iret hF hr hlocks hZ rfl ⟨fun r hr => rfl, Or.inr ⟨hno, Or.inr ⟨hfull, rfl, h⟩⟩⟩ d_S_learn_88
set_option maxHeartbeats 4000000 in
set_option maxRecDepth 100000 in
theorem c_S_forget (l : Launch) {G : zG} {ad : Nat → Nat} {en : Nat → va_E} {N : Nat} {T : List Nat} {sg : Nat → Nat} {C : List wd_W} (hN : 104 ≤ N) (h : pS G ad en T sg C) {j : Nat} (hj : j < C.length) : zMi l y_S_forget b_S_forget 2 .boolean 3 G ad en N [.ref (ad (0)), .int (nI (j))] (fun v en1 => v = 1 ∧ (∃ sg1, pS G ad en1 T sg1 (C.eraseIdx j)) ∧ ∀ r, 104 ≤ r → en1 r = en r) := by
  have hh := h
  obtain ⟨s0, sL, sD, ⟨ME, sE⟩, ⟨MR, sR⟩, fd, sF⟩ := hh
  have hsL := sL
  obtain ⟨e1, l1, l26, f1, e2, l2⟩ := hsL
  have hsD := sD
  obtain ⟨d1, d2, ⟨g0, d3, d3g⟩, d4, d5, d6, d7⟩ := hsD
  refine z_met (by decide) (Nat.le_of_ble_eq_true rfl) ?_
  intro p e s m below meth c ls hF hr hlocks hnam hZ hl
  have hF : CallFix p m c b_S_forget 2 s ([.ref (ad (0)), .int (nI (j))] : List Value).toArray zz R_S := hF
  have hl : lv_has ls 2 [(0, .ref (ad (0))), (1, .int (nI (j)))] := hl
  refine lv_aload_n hF.1 hF.2.1 d_S_forget_0 rfl (lv_at hl 0 rfl) ?_
  refine gf_S_21 hF hZ (0) (by omega) s0 rfl d_S_forget_1 ?_
  refine lv_iload_n hF.1 hF.2.1 d_S_forget_4 rfl (lv_at hl 1 rfl) ?_
  refine z_calli hZ (z_run cw_S_75 hF hZ (3) (c_D_remove l (by omega) sD hj) (by decide) (by omega) d1 rfl rfl hl.1 rfl (Nat.le_of_ble_eq_true rfl) d_S_forget_5) (fun v en1 H locs hq hZ => ?_)
  obtain ⟨hv, ⟨sg1, hq1⟩, hq2⟩ := hq
  subst hv
  exact z_iret hF hr hlocks hZ (by decide) ⟨rfl, ⟨sg1, h.dic hq1 hq2⟩, fun r hr => hq2 r (by omega)⟩ d_S_forget_8
set_option maxHeartbeats 4000000 in
set_option maxRecDepth 100000 in
theorem c_S_forgetNo (l : Launch) {G : zG} {ad : Nat → Nat} {en : Nat → va_E} {N : Nat} {T : List Nat} {sg : Nat → Nat} {C : List wd_W} (hN : 104 ≤ N) (h : pS G ad en T sg C) {k : Int32} (hno : k < 0 ∨ nI C.length ≤ k) : zMi l y_S_forget b_S_forget 2 .boolean 3 G ad en N [.ref (ad (0)), .int (k)] (fun v en1 => v = 0 ∧ en1 = en) := by
  have hh := h
  obtain ⟨s0, sL, sD, ⟨ME, sE⟩, ⟨MR, sR⟩, fd, sF⟩ := hh
  have hsL := sL
  obtain ⟨e1, l1, l26, f1, e2, l2⟩ := hsL
  have hsD := sD
  obtain ⟨d1, d2, ⟨g0, d3, d3g⟩, d4, d5, d6, d7⟩ := hsD
  refine z_met (by decide) (Nat.le_of_ble_eq_true rfl) ?_
  intro p e s m below meth c ls hF hr hlocks hnam hZ hl
  have hF : CallFix p m c b_S_forget 2 s ([.ref (ad (0)), .int (k)] : List Value).toArray zz R_S := hF
  have hl : lv_has ls 2 [(0, .ref (ad (0))), (1, .int (k))] := hl
  refine lv_aload_n hF.1 hF.2.1 d_S_forget_0 rfl (lv_at hl 0 rfl) ?_
  refine gf_S_21 hF hZ (0) (by omega) s0 rfl d_S_forget_1 ?_
  refine lv_iload_n hF.1 hF.2.1 d_S_forget_4 rfl (lv_at hl 1 rfl) ?_
  refine z_calli hZ (z_run cw_S_75 hF hZ (3) (c_D_removeNo l (by omega) sD hno) (by decide) (by omega) d1 rfl rfl hl.1 rfl (Nat.le_of_ble_eq_true rfl) d_S_forget_5) (fun v en1 H locs hq hZ => ?_)
  obtain ⟨hv, hq1⟩ := hq
  subst hv
  exact z_iret hF hr hlocks hZ (by decide) ⟨rfl, hq1⟩ d_S_forget_8
set_option maxHeartbeats 4000000 in
set_option maxRecDepth 100000 in
theorem c_S_words (l : Launch) {G : zG} {ad : Nat → Nat} {en : Nat → va_E} {N : Nat} {T : List Nat} {sg : Nat → Nat} {C : List wd_W} (hN : 104 ≤ N) (h : pS G ad en T sg C) : zMi l y_S_words b_S_words 1 .int 1 G ad en N [.ref (ad (0))] (fun v en1 => en1 = en ∧ v = nI C.length) := by
  have hh := h
  obtain ⟨s0, sL, sD, ⟨ME, sE⟩, ⟨MR, sR⟩, fd, sF⟩ := hh
  have hsL := sL
  obtain ⟨e1, l1, l26, f1, e2, l2⟩ := hsL
  have hsD := sD
  obtain ⟨d1, d2, ⟨g0, d3, d3g⟩, d4, d5, d6, d7⟩ := hsD
  refine z_met (by decide) (Nat.le_of_ble_eq_true rfl) ?_
  intro p e s m below meth c ls hF hr hlocks hnam hZ hl
  have hF : CallFix p m c b_S_words 1 s ([.ref (ad (0))] : List Value).toArray zz R_S := hF
  have hl : lv_has ls 1 [(0, .ref (ad (0)))] := hl
  refine lv_aload_n hF.1 hF.2.1 d_S_words_0 rfl (lv_at hl 0 rfl) ?_
  refine gf_S_21 hF hZ (0) (by omega) s0 rfl d_S_words_1 ?_
  refine gf_S_78 hF hZ (3) (by omega) d1 rfl d_S_words_4 ?_
  exact z_iret hF hr hlocks hZ rfl ⟨rfl, rfl⟩ d_S_words_7
set_option maxHeartbeats 4000000 in
set_option maxRecDepth 100000 in
theorem c_S_letter (l : Launch) {G : zG} {ad : Nat → Nat} {en : Nat → va_E} {N : Nat} {T : List Nat} {sg : Nat → Nat} {C : List wd_W} (hN : 104 ≤ N) (h : pS G ad en T sg C) {j : Nat} {w : wd_W} (hj : C[j]? = some w) {i : Int32} : zMi l y_S_letter b_S_letter 3 .int 2 G ad en N [.ref (ad (0)), .int (nI (j)), .int (i)] (fun v en1 => en1 = en ∧ v = iv (atv w.1 i)) := by
  have hh := h
  obtain ⟨s0, sL, sD, ⟨ME, sE⟩, ⟨MR, sR⟩, fd, sF⟩ := hh
  have hsL := sL
  obtain ⟨e1, l1, l26, f1, e2, l2⟩ := hsL
  have hsD := sD
  obtain ⟨d1, d2, ⟨g0, d3, d3g⟩, d4, d5, d6, d7⟩ := hsD
  have hjl := wd_lt_of hj
  have hsj := d4 j (by omega)
  have hw := d7 j w hj
  have hwL := hw.2.1
  obtain ⟨e5, m1, m26, f5, e6, m2⟩ := hwL
  refine z_met (by decide) (Nat.le_of_ble_eq_true rfl) ?_
  intro p e s m below meth c ls hF hr hlocks hnam hZ hl
  have hF : CallFix p m c b_S_letter 3 s ([.ref (ad (0)), .int (nI (j)), .int (i)] : List Value).toArray zz R_S := hF
  have hl : lv_has ls 3 [(0, .ref (ad (0))), (1, .int (nI (j))), (2, .int (i))] := hl
  refine lv_aload_n hF.1 hF.2.1 d_S_letter_0 rfl (lv_at hl 0 rfl) ?_
  refine gf_S_21 hF hZ (0) (by omega) s0 rfl d_S_letter_1 ?_
  refine lv_iload_n hF.1 hF.2.1 d_S_letter_4 rfl (lv_at hl 1 rfl) ?_
  refine z_calli hZ (z_run cw_S_79 hF hZ (3) (c_D_has l (by omega) sD hjl) (by decide) (by omega) d1 rfl rfl hl.1 rfl (Nat.le_of_ble_eq_true rfl) d_S_letter_5) (fun v enq H locs hp hZ => ?_)
  obtain ⟨he, hv⟩ := hp
  subst hv
  have hZ := hZ.to he
  refine lv_if_eq (tgt := 26) hF.1 hF.2.1 d_S_letter_8 (by decide) (fun h => absurd h (by decide)) (fun _ => ?_)
  refine lv_aload_n hF.1 hF.2.1 d_S_letter_11 rfl (lv_at hl 0 rfl) ?_
  refine gf_S_21 hF hZ (0) (by omega) s0 rfl d_S_letter_12 ?_
  refine lv_iload_n hF.1 hF.2.1 d_S_letter_15 rfl (lv_at hl 1 rfl) ?_
  refine z_callr hZ (z_run cw_S_82 hF hZ (3) (c_D_lettersOf l (by omega) sD (j := j) hjl) (by decide) (by omega) d1 rfl rfl hl.1 rfl (Nat.le_of_ble_eq_true rfl) d_S_letter_16) (fun v enq H locs hp hZ => ?_)
  obtain ⟨he, hv⟩ := hp
  subst hv
  have hZ := hZ.to he
  refine lv_iload_n hF.1 hF.2.1 d_S_letter_19 rfl (lv_at hl 2 rfl) ?_
  refine z_calli hZ (z_run cw_S_58 hF hZ (6 + 3 * sg (j)) (c_L_at l (by omega) (by omega) (by omega) (by omega) hw.2.1 i) (by decide) (by omega) e5 rfl rfl hl.1 rfl (Nat.le_of_ble_eq_true rfl) d_S_letter_20) (fun v enq H locs hp hZ => ?_)
  obtain ⟨he, hv⟩ := hp
  subst hv
  have hZ := hZ.to he
  refine lv_goto (tgt := 27) hF.1 hF.2.1 d_S_letter_23 (by decide) ?_
  exact z_iret hF hr hlocks hZ rfl ⟨rfl, rfl⟩ d_S_letter_27
set_option maxHeartbeats 4000000 in
set_option maxRecDepth 100000 in
theorem c_S_letterNo (l : Launch) {G : zG} {ad : Nat → Nat} {en : Nat → va_E} {N : Nat} {T : List Nat} {sg : Nat → Nat} {C : List wd_W} (hN : 104 ≤ N) (h : pS G ad en T sg C) {k : Int32} (hno : k < 0 ∨ nI C.length ≤ k) {i : Int32} : zMi l y_S_letter b_S_letter 3 .int 2 G ad en N [.ref (ad (0)), .int (k), .int (i)] (fun v en1 => en1 = en ∧ v = -1) := by
  have hh := h
  obtain ⟨s0, sL, sD, ⟨ME, sE⟩, ⟨MR, sR⟩, fd, sF⟩ := hh
  have hsL := sL
  obtain ⟨e1, l1, l26, f1, e2, l2⟩ := hsL
  have hsD := sD
  obtain ⟨d1, d2, ⟨g0, d3, d3g⟩, d4, d5, d6, d7⟩ := hsD
  refine z_met (by decide) (Nat.le_of_ble_eq_true rfl) ?_
  intro p e s m below meth c ls hF hr hlocks hnam hZ hl
  have hF : CallFix p m c b_S_letter 3 s ([.ref (ad (0)), .int (k), .int (i)] : List Value).toArray zz R_S := hF
  have hl : lv_has ls 3 [(0, .ref (ad (0))), (1, .int (k)), (2, .int (i))] := hl
  refine lv_aload_n hF.1 hF.2.1 d_S_letter_0 rfl (lv_at hl 0 rfl) ?_
  refine gf_S_21 hF hZ (0) (by omega) s0 rfl d_S_letter_1 ?_
  refine lv_iload_n hF.1 hF.2.1 d_S_letter_4 rfl (lv_at hl 1 rfl) ?_
  refine z_calli hZ (z_run cw_S_79 hF hZ (3) (c_D_hasNo l (by omega) sD hno) (by decide) (by omega) d1 rfl rfl hl.1 rfl (Nat.le_of_ble_eq_true rfl) d_S_letter_5) (fun v enq H locs hp hZ => ?_)
  obtain ⟨he, hv⟩ := hp
  subst hv
  have hZ := hZ.to he
  refine lv_if_eq (tgt := 26) hF.1 hF.2.1 d_S_letter_8 (by decide) (fun _ => ?_) (fun h => absurd rfl h)
  refine lv_iconst (v := ((-1))) hF.1 hF.2.1 d_S_letter_26 (by decide) ?_
  exact z_iret hF hr hlocks hZ rfl ⟨rfl, rfl⟩ d_S_letter_27
set_option maxHeartbeats 4000000 in
set_option maxRecDepth 100000 in
theorem c_S_count (l : Launch) {G : zG} {ad : Nat → Nat} {en : Nat → va_E} {N : Nat} {T : List Nat} {sg : Nat → Nat} {C : List wd_W} (hN : 104 ≤ N) (h : pS G ad en T sg C) {j : Nat} {w : wd_W} (hj : C[j]? = some w) : zMi l y_S_count b_S_count 2 .int 2 G ad en N [.ref (ad (0)), .int (nI (j))] (fun v en1 => en1 = en ∧ v = nI w.2) := by
  have hh := h
  obtain ⟨s0, sL, sD, ⟨ME, sE⟩, ⟨MR, sR⟩, fd, sF⟩ := hh
  have hsL := sL
  obtain ⟨e1, l1, l26, f1, e2, l2⟩ := hsL
  have hsD := sD
  obtain ⟨d1, d2, ⟨g0, d3, d3g⟩, d4, d5, d6, d7⟩ := hsD
  have hjl := wd_lt_of hj
  have hsj := d4 j (by omega)
  have hw := d7 j w hj
  have hwL := hw.2.1
  obtain ⟨e5, m1, m26, f5, e6, m2⟩ := hwL
  refine z_met (by decide) (Nat.le_of_ble_eq_true rfl) ?_
  intro p e s m below meth c ls hF hr hlocks hnam hZ hl
  have hF : CallFix p m c b_S_count 2 s ([.ref (ad (0)), .int (nI (j))] : List Value).toArray zz R_S := hF
  have hl : lv_has ls 2 [(0, .ref (ad (0))), (1, .int (nI (j)))] := hl
  refine lv_aload_n hF.1 hF.2.1 d_S_count_0 rfl (lv_at hl 0 rfl) ?_
  refine gf_S_21 hF hZ (0) (by omega) s0 rfl d_S_count_1 ?_
  refine lv_iload_n hF.1 hF.2.1 d_S_count_4 rfl (lv_at hl 1 rfl) ?_
  refine z_calli hZ (z_run cw_S_79 hF hZ (3) (c_D_has l (by omega) sD hjl) (by decide) (by omega) d1 rfl rfl hl.1 rfl (Nat.le_of_ble_eq_true rfl) d_S_count_5) (fun v enq H locs hp hZ => ?_)
  obtain ⟨he, hv⟩ := hp
  subst hv
  have hZ := hZ.to he
  refine lv_if_eq (tgt := 22) hF.1 hF.2.1 d_S_count_8 (by decide) (fun h => absurd h (by decide)) (fun _ => ?_)
  refine lv_aload_n hF.1 hF.2.1 d_S_count_11 rfl (lv_at hl 0 rfl) ?_
  refine gf_S_21 hF hZ (0) (by omega) s0 rfl d_S_count_12 ?_
  refine lv_iload_n hF.1 hF.2.1 d_S_count_15 rfl (lv_at hl 1 rfl) ?_
  refine z_calli hZ (z_run cw_S_86 hF hZ (3) (c_D_timesOf l (by omega) sD hj) (by decide) (by omega) d1 rfl rfl hl.1 rfl (Nat.le_of_ble_eq_true rfl) d_S_count_16) (fun v enq H locs hp hZ => ?_)
  obtain ⟨he, hv⟩ := hp
  subst hv
  have hZ := hZ.to he
  refine lv_goto (tgt := 23) hF.1 hF.2.1 d_S_count_19 (by decide) ?_
  exact z_iret hF hr hlocks hZ rfl ⟨rfl, rfl⟩ d_S_count_23
set_option maxHeartbeats 4000000 in
set_option maxRecDepth 100000 in
theorem c_S_countNo (l : Launch) {G : zG} {ad : Nat → Nat} {en : Nat → va_E} {N : Nat} {T : List Nat} {sg : Nat → Nat} {C : List wd_W} (hN : 104 ≤ N) (h : pS G ad en T sg C) {k : Int32} (hno : k < 0 ∨ nI C.length ≤ k) : zMi l y_S_count b_S_count 2 .int 2 G ad en N [.ref (ad (0)), .int (k)] (fun v en1 => en1 = en ∧ v = 0) := by
  have hh := h
  obtain ⟨s0, sL, sD, ⟨ME, sE⟩, ⟨MR, sR⟩, fd, sF⟩ := hh
  have hsL := sL
  obtain ⟨e1, l1, l26, f1, e2, l2⟩ := hsL
  have hsD := sD
  obtain ⟨d1, d2, ⟨g0, d3, d3g⟩, d4, d5, d6, d7⟩ := hsD
  refine z_met (by decide) (Nat.le_of_ble_eq_true rfl) ?_
  intro p e s m below meth c ls hF hr hlocks hnam hZ hl
  have hF : CallFix p m c b_S_count 2 s ([.ref (ad (0)), .int (k)] : List Value).toArray zz R_S := hF
  have hl : lv_has ls 2 [(0, .ref (ad (0))), (1, .int (k))] := hl
  refine lv_aload_n hF.1 hF.2.1 d_S_count_0 rfl (lv_at hl 0 rfl) ?_
  refine gf_S_21 hF hZ (0) (by omega) s0 rfl d_S_count_1 ?_
  refine lv_iload_n hF.1 hF.2.1 d_S_count_4 rfl (lv_at hl 1 rfl) ?_
  refine z_calli hZ (z_run cw_S_79 hF hZ (3) (c_D_hasNo l (by omega) sD hno) (by decide) (by omega) d1 rfl rfl hl.1 rfl (Nat.le_of_ble_eq_true rfl) d_S_count_5) (fun v enq H locs hp hZ => ?_)
  obtain ⟨he, hv⟩ := hp
  subst hv
  have hZ := hZ.to he
  refine lv_if_eq (tgt := 22) hF.1 hF.2.1 d_S_count_8 (by decide) (fun _ => ?_) (fun h => absurd rfl h)
  refine lv_iconst (v := (nI (0))) hF.1 hF.2.1 d_S_count_22 (by decide) ?_
  exact z_iret hF hr hlocks hZ rfl ⟨rfl, by decide⟩ d_S_count_23
set_option maxHeartbeats 4000000 in
set_option maxRecDepth 100000 in
theorem c_S_rank (l : Launch) {G : zG} {ad : Nat → Nat} {en : Nat → va_E} {N : Nat} {T : List Nat} {sg : Nat → Nat} {C : List wd_W} (hN : 104 ≤ N) (h : pS G ad en T sg C) : zMi l y_S_rank b_S_rank 1 .int 5 G ad en N [.ref (ad (0))] (fun v en1 => en1 = en ∧ ((∃ k w, C[k]? = some w ∧ w.1 = T ∧ v = nI k) ∨ (v = -1 ∧ ∀ w ∈ C, w.1 ≠ T))) := by
  have hh := h
  obtain ⟨s0, sL, sD, ⟨ME, sE⟩, ⟨MR, sR⟩, fd, sF⟩ := hh
  have hsL := sL
  obtain ⟨e1, l1, l26, f1, e2, l2⟩ := hsL
  have hsD := sD
  obtain ⟨d1, d2, ⟨g0, d3, d3g⟩, d4, d5, d6, d7⟩ := hsD
  refine z_met (by decide) (Nat.le_of_ble_eq_true rfl) ?_
  intro p e s m below meth c ls hF hr hlocks hnam hZ hl
  have hF : CallFix p m c b_S_rank 1 s ([.ref (ad (0))] : List Value).toArray zz R_S := hF
  have hl : lv_has ls 1 [(0, .ref (ad (0)))] := hl
  refine lv_aload_n hF.1 hF.2.1 d_S_rank_0 rfl (lv_at hl 0 rfl) ?_
  refine gf_S_21 hF hZ (0) (by omega) s0 rfl d_S_rank_1 ?_
  refine lv_aload_n hF.1 hF.2.1 d_S_rank_4 rfl (lv_at hl 0 rfl) ?_
  refine gf_S_14 hF hZ (0) (by omega) s0 rfl d_S_rank_5 ?_
  refine z_calli hZ (z_run cw_S_63 hF hZ (3) (c_D_find l (by omega) sD (k2 := 1) (ka2 := 2) (by omega) (by omega) (by omega) (by omega) sL) (by decide) (by omega) d1 rfl rfl hl.1 rfl (Nat.le_of_ble_eq_true rfl) d_S_rank_8) (fun v en1 H locs hp hZ => ?_)
  exact z_iret hF hr hlocks hZ rfl hp d_S_rank_11
set_option maxHeartbeats 4000000 in
set_option maxRecDepth 100000 in
theorem c_S_distance (l : Launch) {G : zG} {ad : Nat → Nat} {en : Nat → va_E} {N : Nat} {T : List Nat} {sg : Nat → Nat} {C : List wd_W} (hN : 104 ≤ N) (h : pS G ad en T sg C) {j : Nat} {w : wd_W} (hj : C[j]? = some w) : zMi l y_S_distance b_S_distance 2 .int 4 G ad en N [.ref (ad (0)), .int (nI (j))] (fun v en1 => v = nI (dist T w) ∧ pS G ad en1 T sg C ∧ ∀ r, 104 ≤ r → en1 r = en r) := by
  have hh := h
  obtain ⟨s0, sL, sD, ⟨ME, sE⟩, ⟨MR, sR⟩, fd, sF⟩ := hh
  have hsL := sL
  obtain ⟨e1, l1, l26, f1, e2, l2⟩ := hsL
  have hsD := sD
  obtain ⟨d1, d2, ⟨g0, d3, d3g⟩, d4, d5, d6, d7⟩ := hsD
  have hjl := wd_lt_of hj
  have hsj := d4 j (by omega)
  have hw := d7 j w hj
  have hwL := hw.2.1
  obtain ⟨e5, m1, m26, f5, e6, m2⟩ := hwL
  refine z_met (by decide) (Nat.le_of_ble_eq_true rfl) ?_
  intro p e s m below meth c ls hF hr hlocks hnam hZ hl
  have hF : CallFix p m c b_S_distance 2 s ([.ref (ad (0)), .int (nI (j))] : List Value).toArray zz R_S := hF
  have hl : lv_has ls 2 [(0, .ref (ad (0))), (1, .int (nI (j)))] := hl
  refine lv_aload_n hF.1 hF.2.1 d_S_distance_0 rfl (lv_at hl 0 rfl) ?_
  refine gf_S_21 hF hZ (0) (by omega) s0 rfl d_S_distance_1 ?_
  refine lv_iload_n hF.1 hF.2.1 d_S_distance_4 rfl (lv_at hl 1 rfl) ?_
  refine z_calli hZ (z_run cw_S_79 hF hZ (3) (c_D_has l (by omega) sD hjl) (by decide) (by omega) d1 rfl rfl hl.1 rfl (Nat.le_of_ble_eq_true rfl) d_S_distance_5) (fun v enq H locs hp hZ => ?_)
  obtain ⟨he, hv⟩ := hp
  subst hv
  have hZ := hZ.to he
  refine lv_if_eq (tgt := 33) hF.1 hF.2.1 d_S_distance_8 (by decide) (fun h => absurd h (by decide)) (fun _ => ?_)
  refine lv_aload_n hF.1 hF.2.1 d_S_distance_11 rfl (lv_at hl 0 rfl) ?_
  refine gf_S_28 hF hZ (0) (by omega) s0 rfl d_S_distance_12 ?_
  refine lv_aload_n hF.1 hF.2.1 d_S_distance_15 rfl (lv_at hl 0 rfl) ?_
  refine gf_S_14 hF hZ (0) (by omega) s0 rfl d_S_distance_16 ?_
  refine lv_aload_n hF.1 hF.2.1 d_S_distance_19 rfl (lv_at hl 0 rfl) ?_
  refine gf_S_21 hF hZ (0) (by omega) s0 rfl d_S_distance_20 ?_
  refine lv_iload_n hF.1 hF.2.1 d_S_distance_23 rfl (lv_at hl 1 rfl) ?_
  refine z_callr hZ (z_run cw_S_82 hF hZ (3) (c_D_lettersOf l (by omega) sD (j := j) hjl) (by decide) (by omega) d1 rfl rfl hl.1 rfl (Nat.le_of_ble_eq_true rfl) d_S_distance_24) (fun v enq H locs hp hZ => ?_)
  obtain ⟨he, hv⟩ := hp
  subst hv
  have hZ := hZ.to he
  refine z_calli hZ (z_run cw_S_89 hF hZ (77) (c_E_measure l (k1 := 1) (a1 := 2) (by omega) (by omega) (by omega) (by omega) sL (by omega) (by omega) (by omega) (by omega) hw.2.1 l1 m1 (by omega) sE (by omega) (by omega) (by omega) (by omega)) (by decide) (by omega) sE.1 rfl rfl hl.1 rfl (Nat.le_of_ble_eq_true rfl) d_S_distance_27) (fun v en1 H locs hq hZ => ?_)
  obtain ⟨hv, ⟨M1, hq1, -⟩, hq2⟩ := hq
  subst hv
  refine lv_goto (tgt := 34) hF.1 hF.2.1 d_S_distance_30 (by decide) ?_
  exact z_iret hF hr hlocks hZ rfl ⟨rfl, h.edt hq1 hq2, fun r hr => hq2 r (by omega)⟩ d_S_distance_34
set_option maxHeartbeats 4000000 in
set_option maxRecDepth 100000 in
theorem c_S_distanceNo (l : Launch) {G : zG} {ad : Nat → Nat} {en : Nat → va_E} {N : Nat} {T : List Nat} {sg : Nat → Nat} {C : List wd_W} (hN : 104 ≤ N) (h : pS G ad en T sg C) {k : Int32} (hno : k < 0 ∨ nI C.length ≤ k) : zMi l y_S_distance b_S_distance 2 .int 4 G ad en N [.ref (ad (0)), .int (k)] (fun v en1 => en1 = en ∧ v = -1) := by
  have hh := h
  obtain ⟨s0, sL, sD, ⟨ME, sE⟩, ⟨MR, sR⟩, fd, sF⟩ := hh
  have hsL := sL
  obtain ⟨e1, l1, l26, f1, e2, l2⟩ := hsL
  have hsD := sD
  obtain ⟨d1, d2, ⟨g0, d3, d3g⟩, d4, d5, d6, d7⟩ := hsD
  refine z_met (by decide) (Nat.le_of_ble_eq_true rfl) ?_
  intro p e s m below meth c ls hF hr hlocks hnam hZ hl
  have hF : CallFix p m c b_S_distance 2 s ([.ref (ad (0)), .int (k)] : List Value).toArray zz R_S := hF
  have hl : lv_has ls 2 [(0, .ref (ad (0))), (1, .int (k))] := hl
  refine lv_aload_n hF.1 hF.2.1 d_S_distance_0 rfl (lv_at hl 0 rfl) ?_
  refine gf_S_21 hF hZ (0) (by omega) s0 rfl d_S_distance_1 ?_
  refine lv_iload_n hF.1 hF.2.1 d_S_distance_4 rfl (lv_at hl 1 rfl) ?_
  refine z_calli hZ (z_run cw_S_79 hF hZ (3) (c_D_hasNo l (by omega) sD hno) (by decide) (by omega) d1 rfl rfl hl.1 rfl (Nat.le_of_ble_eq_true rfl) d_S_distance_5) (fun v enq H locs hp hZ => ?_)
  obtain ⟨he, hv⟩ := hp
  subst hv
  have hZ := hZ.to he
  refine lv_if_eq (tgt := 33) hF.1 hF.2.1 d_S_distance_8 (by decide) (fun _ => ?_) (fun h => absurd rfl h)
  refine lv_iconst (v := ((-1))) hF.1 hF.2.1 d_S_distance_33 (by decide) ?_
  exact z_iret hF hr hlocks hZ rfl ⟨rfl, rfl⟩ d_S_distance_34
set_option maxHeartbeats 4000000 in
set_option maxRecDepth 100000 in
theorem c_S_edit (l : Launch) {G : zG} {ad : Nat → Nat} {en : Nat → va_E} {N : Nat} {T : List Nat} {sg : Nat → Nat} {C : List wd_W} (hN : 104 ≤ N) (h : pS G ad en T sg C) {j : Nat} {w : wd_W} (hj : C[j]? = some w) {p0 : Int32} : zMi l y_S_edit b_S_edit 3 .int 5 G ad en N [.ref (ad (0)), .int (nI (j)), .int (p0)] (fun v en1 => v = iv (eav T w.1 p0) ∧ pS G ad en1 T sg C ∧ ∀ r, 104 ≤ r → en1 r = en r) := by
  have hh := h
  obtain ⟨s0, sL, sD, ⟨ME, sE⟩, ⟨MR, sR⟩, fd, sF⟩ := hh
  have hsL := sL
  obtain ⟨e1, l1, l26, f1, e2, l2⟩ := hsL
  have hsD := sD
  obtain ⟨d1, d2, ⟨g0, d3, d3g⟩, d4, d5, d6, d7⟩ := hsD
  have hjl := wd_lt_of hj
  have hsj := d4 j (by omega)
  have hw := d7 j w hj
  have hwL := hw.2.1
  obtain ⟨e5, m1, m26, f5, e6, m2⟩ := hwL
  refine z_met (by decide) (Nat.le_of_ble_eq_true rfl) ?_
  intro p e s m below meth c ls hF hr hlocks hnam hZ hl
  have hF : CallFix p m c b_S_edit 3 s ([.ref (ad (0)), .int (nI (j)), .int (p0)] : List Value).toArray zz R_S := hF
  have hl : lv_has ls 3 [(0, .ref (ad (0))), (1, .int (nI (j))), (2, .int (p0))] := hl
  refine lv_aload_n hF.1 hF.2.1 d_S_edit_0 rfl (lv_at hl 0 rfl) ?_
  refine gf_S_21 hF hZ (0) (by omega) s0 rfl d_S_edit_1 ?_
  refine lv_iload_n hF.1 hF.2.1 d_S_edit_4 rfl (lv_at hl 1 rfl) ?_
  refine z_calli hZ (z_run cw_S_79 hF hZ (3) (c_D_has l (by omega) sD hjl) (by decide) (by omega) d1 rfl rfl hl.1 rfl (Nat.le_of_ble_eq_true rfl) d_S_edit_5) (fun v enq H locs hp hZ => ?_)
  obtain ⟨he, hv⟩ := hp
  subst hv
  have hZ := hZ.to he
  refine lv_if_eq (tgt := 34) hF.1 hF.2.1 d_S_edit_8 (by decide) (fun h => absurd h (by decide)) (fun _ => ?_)
  refine lv_aload_n hF.1 hF.2.1 d_S_edit_11 rfl (lv_at hl 0 rfl) ?_
  refine gf_S_28 hF hZ (0) (by omega) s0 rfl d_S_edit_12 ?_
  refine lv_aload_n hF.1 hF.2.1 d_S_edit_15 rfl (lv_at hl 0 rfl) ?_
  refine gf_S_14 hF hZ (0) (by omega) s0 rfl d_S_edit_16 ?_
  refine lv_aload_n hF.1 hF.2.1 d_S_edit_19 rfl (lv_at hl 0 rfl) ?_
  refine gf_S_21 hF hZ (0) (by omega) s0 rfl d_S_edit_20 ?_
  refine lv_iload_n hF.1 hF.2.1 d_S_edit_23 rfl (lv_at hl 1 rfl) ?_
  refine z_callr hZ (z_run cw_S_82 hF hZ (3) (c_D_lettersOf l (by omega) sD (j := j) hjl) (by decide) (by omega) d1 rfl rfl hl.1 rfl (Nat.le_of_ble_eq_true rfl) d_S_edit_24) (fun v enq H locs hp hZ => ?_)
  obtain ⟨he, hv⟩ := hp
  subst hv
  have hZ := hZ.to he
  refine lv_iload_n hF.1 hF.2.1 d_S_edit_27 rfl (lv_at hl 2 rfl) ?_
  refine z_calli hZ (z_run cw_S_105 hF hZ (77) (c_E_editAt l (k1 := 1) (a1 := 2) (by omega) (by omega) (by omega) (by omega) sL (by omega) (by omega) (by omega) (by omega) hw.2.1 l1 m1 (by omega) sE (by omega) (by omega) (by omega) (by omega)) (by decide) (by omega) sE.1 rfl rfl hl.1 rfl (Nat.le_of_ble_eq_true rfl) d_S_edit_28) (fun v en1 H locs hq hZ => ?_)
  obtain ⟨hv, ⟨M1, hq1⟩, hq2⟩ := hq
  subst hv
  refine lv_goto (tgt := 35) hF.1 hF.2.1 d_S_edit_31 (by decide) ?_
  exact z_iret hF hr hlocks hZ rfl ⟨rfl, h.edt hq1 hq2, fun r hr => hq2 r (by omega)⟩ d_S_edit_35
set_option maxHeartbeats 4000000 in
set_option maxRecDepth 100000 in
theorem c_S_editNo (l : Launch) {G : zG} {ad : Nat → Nat} {en : Nat → va_E} {N : Nat} {T : List Nat} {sg : Nat → Nat} {C : List wd_W} (hN : 104 ≤ N) (h : pS G ad en T sg C) {k : Int32} (hno : k < 0 ∨ nI C.length ≤ k) {p0 : Int32} : zMi l y_S_edit b_S_edit 3 .int 5 G ad en N [.ref (ad (0)), .int (k), .int (p0)] (fun v en1 => en1 = en ∧ v = -1) := by
  have hh := h
  obtain ⟨s0, sL, sD, ⟨ME, sE⟩, ⟨MR, sR⟩, fd, sF⟩ := hh
  have hsL := sL
  obtain ⟨e1, l1, l26, f1, e2, l2⟩ := hsL
  have hsD := sD
  obtain ⟨d1, d2, ⟨g0, d3, d3g⟩, d4, d5, d6, d7⟩ := hsD
  refine z_met (by decide) (Nat.le_of_ble_eq_true rfl) ?_
  intro p e s m below meth c ls hF hr hlocks hnam hZ hl
  have hF : CallFix p m c b_S_edit 3 s ([.ref (ad (0)), .int (k), .int (p0)] : List Value).toArray zz R_S := hF
  have hl : lv_has ls 3 [(0, .ref (ad (0))), (1, .int (k)), (2, .int (p0))] := hl
  refine lv_aload_n hF.1 hF.2.1 d_S_edit_0 rfl (lv_at hl 0 rfl) ?_
  refine gf_S_21 hF hZ (0) (by omega) s0 rfl d_S_edit_1 ?_
  refine lv_iload_n hF.1 hF.2.1 d_S_edit_4 rfl (lv_at hl 1 rfl) ?_
  refine z_calli hZ (z_run cw_S_79 hF hZ (3) (c_D_hasNo l (by omega) sD hno) (by decide) (by omega) d1 rfl rfl hl.1 rfl (Nat.le_of_ble_eq_true rfl) d_S_edit_5) (fun v enq H locs hp hZ => ?_)
  obtain ⟨he, hv⟩ := hp
  subst hv
  have hZ := hZ.to he
  refine lv_if_eq (tgt := 34) hF.1 hF.2.1 d_S_edit_8 (by decide) (fun _ => ?_) (fun h => absurd rfl h)
  refine lv_iconst (v := ((-1))) hF.1 hF.2.1 d_S_edit_34 (by decide) ?_
  exact z_iret hF hr hlocks hZ rfl ⟨rfl, rfl⟩ d_S_edit_35
set_option maxHeartbeats 4000000 in
set_option maxRecDepth 100000 in
theorem c_S_drops (l : Launch) {G : zG} {ad : Nat → Nat} {en : Nat → va_E} {N : Nat} {T : List Nat} {sg : Nat → Nat} {C : List wd_W} (hN : 104 ≤ N) (h : pS G ad en T sg C) {j : Nat} (hj : j ≤ T.length) : zMi l y_S_drops b_S_drops 2 .int 5 G ad en N [.ref (ad (0)), .int (nI (j))] (fun v en1 => v = nI (dr_K T T.length (T.length - j)) ∧ pS G ad en1 T sg C ∧ ∀ r, 104 ≤ r → en1 r = en r) := by
  have hh := h
  obtain ⟨s0, sL, sD, ⟨ME, sE⟩, ⟨MR, sR⟩, fd, sF⟩ := hh
  have hsL := sL
  obtain ⟨e1, l1, l26, f1, e2, l2⟩ := hsL
  have hsD := sD
  obtain ⟨d1, d2, ⟨g0, d3, d3g⟩, d4, d5, d6, d7⟩ := hsD
  refine z_met (by decide) (Nat.le_of_ble_eq_true rfl) ?_
  intro p e s m below meth c ls hF hr hlocks hnam hZ hl
  have hF : CallFix p m c b_S_drops 2 s ([.ref (ad (0)), .int (nI (j))] : List Value).toArray zz R_S := hF
  have hl : lv_has ls 2 [(0, .ref (ad (0))), (1, .int (nI (j)))] := hl
  refine lv_iload_n hF.1 hF.2.1 d_S_drops_0 rfl (lv_at hl 1 rfl) ?_
  refine lv_if_lt (tgt := 15) hF.1 hF.2.1 d_S_drops_1 (by decide) (fun h => absurd h (nI_pos (by omega))) (fun _ => ?_)
  refine lv_iload_n hF.1 hF.2.1 d_S_drops_4 rfl (lv_at hl 1 rfl) ?_
  refine lv_aload_n hF.1 hF.2.1 d_S_drops_5 rfl (lv_at hl 0 rfl) ?_
  refine gf_S_14 hF hZ (0) (by omega) s0 rfl d_S_drops_6 ?_
  refine gf_S_54 hF hZ (1) (by omega) e1 rfl d_S_drops_9 ?_
  refine lv_icmp_le (tgt := 17) hF.1 hF.2.1 d_S_drops_12 (by decide) (fun _ => ?_) (fun h => absurd (nI_le hj (by omega)) h)
  refine lv_aload_n hF.1 hF.2.1 d_S_drops_17 rfl (lv_at hl 0 rfl) ?_
  refine gf_S_35 hF hZ (0) (by omega) s0 rfl d_S_drops_18 ?_
  refine lv_aload_n hF.1 hF.2.1 d_S_drops_21 rfl (lv_at hl 0 rfl) ?_
  refine gf_S_14 hF hZ (0) (by omega) s0 rfl d_S_drops_22 ?_
  refine lv_aload_n hF.1 hF.2.1 d_S_drops_25 rfl (lv_at hl 0 rfl) ?_
  refine gf_S_14 hF hZ (0) (by omega) s0 rfl d_S_drops_26 ?_
  refine gf_S_54 hF hZ (1) (by omega) e1 rfl d_S_drops_29 ?_
  refine lv_iload_n hF.1 hF.2.1 d_S_drops_32 rfl (lv_at hl 1 rfl) ?_
  refine lv_isub hF.1 hF.2.1 d_S_drops_33 ?_
  refine z_top (pk_sub (show j ≤ T.length by omega)) ?_
  refine z_calli hZ (z_run cw_S_109 hF hZ (90) (c_R_listsOf l (k1 := 1) (a1 := 2) (by omega) (by omega) (by omega) (by omega) sL l1 (by omega) sR (by omega) (by omega) (wv := T.length - j) (by omega)) (by decide) (by omega) sR.1 rfl rfl hl.1 rfl (Nat.le_of_ble_eq_true rfl) d_S_drops_34) (fun v en1 H locs hq hZ => ?_)
  obtain ⟨hv, ⟨M1, hq1⟩, hq2⟩ := hq
  subst hv
  exact z_iret hF hr hlocks hZ rfl ⟨rfl, h.drp hq1 hq2, fun r hr => hq2 r (by omega)⟩ d_S_drops_37
set_option maxHeartbeats 4000000 in
set_option maxRecDepth 100000 in
theorem c_S_dropsNo (l : Launch) {G : zG} {ad : Nat → Nat} {en : Nat → va_E} {N : Nat} {T : List Nat} {sg : Nat → Nat} {C : List wd_W} (hN : 104 ≤ N) (h : pS G ad en T sg C) {k : Int32} (hno : k < 0 ∨ nI T.length < k) : zMi l y_S_drops b_S_drops 2 .int 5 G ad en N [.ref (ad (0)), .int (k)] (fun v en1 => en1 = en ∧ v = 0) := by
  have hh := h
  obtain ⟨s0, sL, sD, ⟨ME, sE⟩, ⟨MR, sR⟩, fd, sF⟩ := hh
  have hsL := sL
  obtain ⟨e1, l1, l26, f1, e2, l2⟩ := hsL
  have hsD := sD
  obtain ⟨d1, d2, ⟨g0, d3, d3g⟩, d4, d5, d6, d7⟩ := hsD
  refine z_met (by decide) (Nat.le_of_ble_eq_true rfl) ?_
  intro p e s m below meth c ls hF hr hlocks hnam hZ hl
  have hF : CallFix p m c b_S_drops 2 s ([.ref (ad (0)), .int (k)] : List Value).toArray zz R_S := hF
  have hl : lv_has ls 2 [(0, .ref (ad (0))), (1, .int (k))] := hl
  refine lv_iload_n hF.1 hF.2.1 d_S_drops_0 rfl (lv_at hl 1 rfl) ?_
  refine lv_if_lt (tgt := 15) hF.1 hF.2.1 d_S_drops_1 (by decide) (fun q => ?_) (fun q => ?_)
  · refine lv_iconst (v := (nI (0))) hF.1 hF.2.1 d_S_drops_15 (by decide) ?_
    exact z_iret hF hr hlocks hZ rfl ⟨rfl, by decide⟩ d_S_drops_16
  · refine lv_iload_n hF.1 hF.2.1 d_S_drops_4 rfl (lv_at hl 1 rfl) ?_
    refine lv_aload_n hF.1 hF.2.1 d_S_drops_5 rfl (lv_at hl 0 rfl) ?_
    refine gf_S_14 hF hZ (0) (by omega) s0 rfl d_S_drops_6 ?_
    refine gf_S_54 hF hZ (1) (by omega) e1 rfl d_S_drops_9 ?_
    refine lv_icmp_le (tgt := 17) hF.1 hF.2.1 d_S_drops_12 (by decide) (fun h => absurd h (fun z => by
        have y := hno.resolve_left q
        rw [Int32.lt_iff_toInt_lt] at y; rw [Int32.le_iff_toInt_le] at z; omega)) (fun _ => ?_)
    refine lv_iconst (v := (nI (0))) hF.1 hF.2.1 d_S_drops_15 (by decide) ?_
    exact z_iret hF hr hlocks hZ rfl ⟨rfl, by decide⟩ d_S_drops_16
