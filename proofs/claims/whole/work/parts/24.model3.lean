set_option maxHeartbeats 4000000 in
set_option maxRecDepth 100000 in
theorem c_M_distance (l : Launch) {G : zG} {ad : Nat → Nat} {en : Nat → va_E} {N : Nat} {T : List Nat} {mw : List wd_W} (hN : 111 ≤ N) (h : pM G ad en T mw) {C : List wd_W} (hpm : C.Perm mw) (hso : wd_so C) {k : Int32} : zMi l y_M_distance b_M_distance 3 .int 5 G ad en N [.ref (ad (104)), .int (k)] (fun v en1 => pM G ad en1 T mw ∧ (∀ r, r ≠ 109 → en1 r = en r) ∧ ((∃ j u, C[j]? = some u ∧ k = nI j ∧ v = nI (dist T u)) ∨ ((k < 0 ∨ nI C.length ≤ k) ∧ v = -1))) := by
  have hh := h
  obtain ⟨p1, p2, p26, p3, ⟨ft, p4, p5⟩, ⟨fl, fs, fc, p6, p7, p8, p9⟩, ⟨fr, p10⟩, fj, p11⟩ := hh
  refine z_met (by decide) (Nat.le_of_ble_eq_true rfl) ?_
  intro p e s m below meth c ls hF hr hlocks hnam hZ hl
  have hF : CallFix p m c b_M_distance 3 s ([.ref (ad (104)), .int (k)] : List Value).toArray zz R_M := hF
  have hl : lv_has ls 3 [(0, .ref (ad (104))), (1, .int (k))] := hl
  refine lv_aload_n hF.1 hF.2.1 d_M_distance_0 rfl (lv_at hl 0 rfl) ?_
  refine lv_iload_n hF.1 hF.2.1 d_M_distance_1 rfl (lv_at hl 1 rfl) ?_
  refine z_calli hZ (z_run cw_M_57 hF hZ (104) (c_M_place l hN h hpm hso) (by decide) (by omega) p1 rfl rfl hl.1 rfl (Nat.le_of_ble_eq_true rfl) d_M_distance_2) (fun v enq H locs hp hZ => ?_)
  obtain ⟨he, hd⟩ := hp
  have hZ := hZ.to he
  rcases hd with ⟨w, j, u, hw, hj, hk, hv⟩ | ⟨hv, hno⟩
  · subst hv
    have hwl := wd_lt_of hw
    obtain ⟨u8, u26, ut, us, uc, ul⟩ := p9 w u hw
    refine lv_istore_n hF.1 hF.2.1 d_M_distance_5 rfl hl (by decide) rfl (fun ls hl => ?_)
    have hl : lv_has ls 3 [(2, .int (nI (w))), (0, .ref (ad (104))), (1, .int (k))] := hl
    refine lv_iload_n hF.1 hF.2.1 d_M_distance_6 rfl (lv_at hl 0 rfl) ?_
    refine lv_if_ge (tgt := 14) hF.1 hF.2.1 d_M_distance_7 (by decide) (fun _ => ?_) (fun h => absurd (nI_pos' (by omega)) h)
    refine lv_aload_n hF.1 hF.2.1 d_M_distance_14 rfl (lv_at hl 1 rfl) ?_
    refine lv_iload_n hF.1 hF.2.1 d_M_distance_15 rfl (lv_at hl 0 rfl) ?_
    refine lv_iconst (v := (nI (0))) hF.1 hF.2.1 d_M_distance_16 (by decide) ?_
    refine lv_iconst (v := (nI (0))) hF.1 hF.2.1 d_M_distance_17 (by decide) ?_
    refine z_calli hZ (z_run cw_M_64 hF hZ (104) (c_M_far l hN h hw (i := 0) (j := 0) (Nat.zero_le _) (Nat.zero_le _)) (by decide) (by omega) p1 rfl rfl hl.1 rfl (Nat.le_of_ble_eq_true rfl) d_M_distance_18) (fun v en1 H locs hq hZ => ?_)
    obtain ⟨hv, ⟨f, e9⟩, hq2⟩ := hq
    subst hv
    exact z_iret hF hr hlocks hZ rfl ⟨h.k109 e9 hq2, hq2, Or.inl ⟨j, u, hj, hk, rfl⟩⟩ d_M_distance_21
  · subst hv
    refine lv_istore_n hF.1 hF.2.1 d_M_distance_5 rfl hl (by decide) rfl (fun ls hl => ?_)
    have hl : lv_has ls 3 [(2, .int ((-1))), (0, .ref (ad (104))), (1, .int (k))] := hl
    refine lv_iload_n hF.1 hF.2.1 d_M_distance_6 rfl (lv_at hl 0 rfl) ?_
    refine lv_if_ge (tgt := 14) hF.1 hF.2.1 d_M_distance_7 (by decide) (fun h => absurd h (by decide)) (fun _ => ?_)
    refine lv_iconst (v := ((-1))) hF.1 hF.2.1 d_M_distance_10 (by decide) ?_
    refine lv_goto (tgt := 21) hF.1 hF.2.1 d_M_distance_11 (by decide) ?_
    exact z_iret hF hr hlocks hZ rfl ⟨h, fun _ _ => rfl, Or.inr ⟨hno, rfl⟩⟩ d_M_distance_21
set_option maxHeartbeats 4000000 in
set_option maxRecDepth 100000 in
theorem c_M_near (l : Launch) {G : zG} {ad : Nat → Nat} {en : Nat → va_E} {N : Nat} {T : List Nat} {mw : List wd_W} (hN : 111 ≤ N) (h : pM G ad en T mw) {dd : Int32} : zMi l y_M_near b_M_near 4 .int 3 G ad en N [.ref (ad (104)), .int (dd)] (fun v en1 => pM G ad en1 T mw ∧ (∀ r, r ≠ 109 → en1 r = en r) ∧ v = nI (mw.countP (fun u => decide (nI (dist T u) ≤ dd)))) := by
  refine z_met (by decide) (Nat.le_of_ble_eq_true rfl) ?_
  intro p e s m below meth c ls hF hr hlocks hnam hZ hl
  have hF : CallFix p m c b_M_near 4 s ([.ref (ad (104)), .int (dd)] : List Value).toArray zz R_M := hF
  have hl : lv_has ls 4 [(0, .ref (ad (104))), (1, .int (dd))] := hl
  have loop : ∀ (n i c0 : Nat) (en1 : Nat → va_E) (H : Heap) (locs : List Loc) (ls : Array Slot), (i + n = mw.length) → (pM G ad en1 T mw) → (∀ r, r ≠ 109 → en1 r = en r) → (c0 = (mw.take i).countP (fun u => decide (nI (dist T u) ≤ dd))) → lv_has ls 4 [(3, .int (nI (i))), (2, .int (nI (c0))), (0, .ref (ad (104))), (1, .int (dd))] → zH G ad en1 N s H locs → W p l e (zR 3) s m ([.ref (ad (104)), .int (dd)] : List Value).toArray below meth c H locs 0 0 (MQ below (zQi G ad N (fun v en1 => pM G ad en1 T mw ∧ (∀ r, r ≠ 109 → en1 r = en r) ∧ v = nI (mw.countP (fun u => decide (nI (dist T u) ≤ dd))))) ([.ref (ad (104)), .int (dd)] : List Value).toArray s 0 0 (zA G)) (F0 m 4 ls []) := by
    intro n
    induction n with
    | zero =>
      intro i c0 en1 H locs ls hin h1 hfr hp hl hZ
      have hh := h1
      obtain ⟨p1, p2, p26, p3, ⟨ft, p4, p5⟩, ⟨fl, fs, fc, p6, p7, p8, p9⟩, ⟨fr, p10⟩, fj, p11⟩ := hh
      refine lv_iload_n hF.1 hF.2.1 d_M_near_4 rfl (lv_at hl 0 rfl) ?_
      refine lv_aload_n hF.1 hF.2.1 d_M_near_5 rfl (lv_at hl 2 rfl) ?_
      refine gf_M_37 hF hZ (104) (by omega) p1 rfl d_M_near_6 ?_
      refine lv_icmp_ge (tgt := 32) hF.1 hF.2.1 d_M_near_9 (by decide) (fun _ => ?_) (fun h => absurd (nI_le (by omega) (by omega)) h)
      refine lv_iload_n hF.1 hF.2.1 d_M_near_32 rfl (lv_at hl 1 rfl) ?_
      exact z_iret hF hr hlocks hZ rfl ⟨h1, hfr, by rw [hp, List.take_of_length_le (by omega)]⟩ d_M_near_33
    | succ n ih =>
      intro i c0 en1 H locs ls hin h1 hfr hp hl hZ
      obtain ⟨u, hi⟩ := wd_some (show i < mw.length by omega)
      have hct := wd_cnt_s (fun u => decide (nI (dist T u) ≤ dd)) hi
      have hh := h1
      obtain ⟨p1, p2, p26, p3, ⟨ft, p4, p5⟩, ⟨fl, fs, fc, p6, p7, p8, p9⟩, ⟨fr, p10⟩, fj, p11⟩ := hh
      refine lv_iload_n hF.1 hF.2.1 d_M_near_4 rfl (lv_at hl 0 rfl) ?_
      refine lv_aload_n hF.1 hF.2.1 d_M_near_5 rfl (lv_at hl 2 rfl) ?_
      refine gf_M_37 hF hZ (104) (by omega) p1 rfl d_M_near_6 ?_
      refine lv_icmp_ge (tgt := 32) hF.1 hF.2.1 d_M_near_9 (by decide) (fun h => absurd h (nI_ge (show i < mw.length by omega) (by omega))) (fun _ => ?_)
      refine lv_aload_n hF.1 hF.2.1 d_M_near_12 rfl (lv_at hl 2 rfl) ?_
      refine lv_iload_n hF.1 hF.2.1 d_M_near_13 rfl (lv_at hl 0 rfl) ?_
      refine lv_iconst (v := (nI (0))) hF.1 hF.2.1 d_M_near_14 (by decide) ?_
      refine lv_iconst (v := (nI (0))) hF.1 hF.2.1 d_M_near_15 (by decide) ?_
      refine z_calli hZ (z_run cw_M_64 hF hZ (104) (c_M_far l hN h1 hi (i := 0) (j := 0) (Nat.zero_le _) (Nat.zero_le _)) (by decide) (by omega) p1 rfl rfl hl.1 rfl (Nat.le_of_ble_eq_true rfl) d_M_near_16) (fun v en2 H locs hq hZ => ?_)
      obtain ⟨hv, ⟨f, e9⟩, hq2⟩ := hq
      subst hv
      have h2 := h1.k109 e9 hq2
      have hfr2 : ∀ r, r ≠ 109 → en2 r = en r := fun r hr => (hq2 r hr).trans (hfr r hr)
      refine lv_iload_n hF.1 hF.2.1 d_M_near_19 rfl (lv_at hl 3 rfl) ?_
      refine lv_icmp_gt (tgt := 26) hF.1 hF.2.1 d_M_near_20 (by decide) (fun q => ?_) (fun q => ?_)
      · have q : ¬ nI (dist T u) ≤ dd := fun z => by
          rw [Int32.lt_iff_toInt_lt] at q; rw [Int32.le_iff_toInt_le] at z; exact absurd z (Int.not_le.mpr q)
        refine lv_iinc (k := 0) (v := (nI (i + 1))) hF.1 hF.2.1 d_M_near_26 hl rfl (iinc_p (i)) (by decide) rfl (fun ls hl => ?_)
        have hl : lv_has ls 4 [(3, .int (nI (i + 1))), (2, .int (nI (c0))), (0, .ref (ad (104))), (1, .int (dd))] := hl
        refine lv_goto (tgt := 4) hF.1 hF.2.1 d_M_near_29 (by decide) ?_
        exact ih (i + 1) c0 en2 H locs ls (by omega) h2 hfr2 (by rw [hct, decide_eq_false q, ← hp]; rfl) hl hZ
      · have q : nI (dist T u) ≤ dd := by
          rw [Int32.le_iff_toInt_le]; exact Int.not_lt.mp (fun z => q (Int32.lt_iff_toInt_lt.mpr z))
        refine lv_iinc (k := 1) (v := (nI (c0 + 1))) hF.1 hF.2.1 d_M_near_23 hl rfl (iinc_p (c0)) (by decide) rfl (fun ls hl => ?_)
        have hl : lv_has ls 4 [(2, .int (nI (c0 + 1))), (3, .int (nI (i))), (0, .ref (ad (104))), (1, .int (dd))] := hl
        refine lv_iinc (k := 1) (v := (nI (i + 1))) hF.1 hF.2.1 d_M_near_26 hl rfl (iinc_p (i)) (by decide) rfl (fun ls hl => ?_)
        have hl : lv_has ls 4 [(3, .int (nI (i + 1))), (2, .int (nI (c0 + 1))), (0, .ref (ad (104))), (1, .int (dd))] := hl
        refine lv_goto (tgt := 4) hF.1 hF.2.1 d_M_near_29 (by decide) ?_
        exact ih (i + 1) (c0 + 1) en2 H locs ls (by omega) h2 hfr2 (by rw [hct, decide_eq_true q, ← hp]; rfl) hl hZ
  refine lv_iconst (v := (nI (0))) hF.1 hF.2.1 d_M_near_0 (by decide) ?_
  refine lv_istore_n hF.1 hF.2.1 d_M_near_1 rfl hl (by decide) rfl (fun ls hl => ?_)
  have hl : lv_has ls 4 [(2, .int (nI (0))), (0, .ref (ad (104))), (1, .int (dd))] := hl
  refine lv_iconst (v := (nI (0))) hF.1 hF.2.1 d_M_near_2 (by decide) ?_
  refine lv_istore_n hF.1 hF.2.1 d_M_near_3 rfl hl (by decide) rfl (fun ls hl => ?_)
  have hl : lv_has ls 4 [(3, .int (nI (0))), (2, .int (nI (0))), (0, .ref (ad (104))), (1, .int (dd))] := hl
  exact loop mw.length 0 0 en _ _ ls (by omega) h (fun _ _ => rfl) (by rw [List.take_zero]; rfl) hl hZ
set_option maxHeartbeats 4000000 in
set_option maxRecDepth 100000 in
theorem c_M_better (l : Launch) {G : zG} {ad : Nat → Nat} {en : Nat → va_E} {N : Nat} {T : List Nat} {mw : List wd_W} (hN : 111 ≤ N) (h : pM G ad en T mw) {w : Nat} {u : wd_W} (hw : mw[w]? = some u) {x : Nat} {t : wd_W} (hx : mw[x]? = some t) {a b : Nat} (ha : a < 2 ^ 31) (hb : b < 2 ^ 31) : zMi l y_M_better b_M_better 5 .boolean 3 G ad en N [.ref (ad (104)), .int (nI (w)), .int (nI (a)), .int (nI (x)), .int (nI (b))] (fun v en1 => en1 = en ∧ v = bI (if a = b then (if u.2 = t.2 then wd_lt u.1 t.1 else decide (t.2 < u.2)) else decide (a < b))) := by
  have hh := h
  obtain ⟨p1, p2, p26, p3, ⟨ft, p4, p5⟩, ⟨fl, fs, fc, p6, p7, p8, p9⟩, ⟨fr, p10⟩, fj, p11⟩ := hh
  have hwl := wd_lt_of hw
  obtain ⟨u8, u26, ut, us, uc, ul⟩ := p9 w u hw
  have hxl := wd_lt_of hx
  obtain ⟨t8, t26, tt, ts, tc, tl⟩ := p9 x t hx
  refine z_met (by decide) (Nat.le_of_ble_eq_true rfl) ?_
  intro p e s m below meth c ls hF hr hlocks hnam hZ hl
  have hF : CallFix p m c b_M_better 5 s ([.ref (ad (104)), .int (nI (w)), .int (nI (a)), .int (nI (x)), .int (nI (b))] : List Value).toArray zz R_M := hF
  have hl : lv_has ls 5 [(0, .ref (ad (104))), (1, .int (nI (w))), (2, .int (nI (a))), (3, .int (nI (x))), (4, .int (nI (b)))] := hl
  refine lv_iload_n hF.1 hF.2.1 d_M_better_0 rfl (lv_at hl 2 rfl) ?_
  refine lv_iload hF.1 hF.2.1 d_M_better_1 (lv_at hl 4 rfl) ?_
  refine lv_icmp_eq (tgt := 18) hF.1 hF.2.1 d_M_better_3 (by decide) (fun q => ?_) (fun q => ?_)
  · have q := (nI_eq ha hb).mp q
    refine lv_aload_n hF.1 hF.2.1 d_M_better_18 rfl (lv_at hl 0 rfl) ?_
    refine gf_M_19 hF hZ (104) (by omega) p1 rfl d_M_better_19 ?_
    refine lv_iload_n hF.1 hF.2.1 d_M_better_22 rfl (lv_at hl 1 rfl) ?_
    refine z_iald hF hZ (108) (by omega) p8 (w) (by omega) (by omega) d_M_better_23 ?_
    refine z_top (y := (nI (u.2))) uc ?_
    refine lv_aload_n hF.1 hF.2.1 d_M_better_24 rfl (lv_at hl 0 rfl) ?_
    refine gf_M_19 hF hZ (104) (by omega) p1 rfl d_M_better_25 ?_
    refine lv_iload_n hF.1 hF.2.1 d_M_better_28 rfl (lv_at hl 3 rfl) ?_
    refine z_iald hF hZ (108) (by omega) p8 (x) (by omega) (by omega) d_M_better_29 ?_
    refine z_top (y := (nI (t.2))) tc ?_
    refine lv_icmp_eq (tgt := 56) hF.1 hF.2.1 d_M_better_30 (by decide) (fun r => ?_) (fun r => ?_)
    · have r := (nI_eq (by omega) (by omega)).mp r
      refine lv_aload_n hF.1 hF.2.1 d_M_better_56 rfl (lv_at hl 0 rfl) ?_
      refine lv_iload_n hF.1 hF.2.1 d_M_better_57 rfl (lv_at hl 1 rfl) ?_
      refine lv_iload_n hF.1 hF.2.1 d_M_better_58 rfl (lv_at hl 3 rfl) ?_
      refine z_calli hZ (z_run cw_M_40 hF hZ (104) (c_M_before l hN h hw hx) (by decide) (by omega) p1 rfl rfl hl.1 rfl (Nat.le_of_ble_eq_true rfl) d_M_better_59) (fun v enq H locs hp hZ => ?_)
      obtain ⟨he, hv⟩ := hp
      subst hv
      have hZ := hZ.to he
      exact z_iret hF hr hlocks hZ (bI_nar _) ⟨rfl, by rw [if_pos q, if_pos r]⟩ d_M_better_62
    · have r : ¬ u.2 = t.2 := fun z => r (by rw [z])
      refine lv_aload_n hF.1 hF.2.1 d_M_better_33 rfl (lv_at hl 0 rfl) ?_
      refine gf_M_19 hF hZ (104) (by omega) p1 rfl d_M_better_34 ?_
      refine lv_iload_n hF.1 hF.2.1 d_M_better_37 rfl (lv_at hl 1 rfl) ?_
      refine z_iald hF hZ (108) (by omega) p8 (w) (by omega) (by omega) d_M_better_38 ?_
      refine z_top (y := (nI (u.2))) uc ?_
      refine lv_aload_n hF.1 hF.2.1 d_M_better_39 rfl (lv_at hl 0 rfl) ?_
      refine gf_M_19 hF hZ (104) (by omega) p1 rfl d_M_better_40 ?_
      refine lv_iload_n hF.1 hF.2.1 d_M_better_43 rfl (lv_at hl 3 rfl) ?_
      refine z_iald hF hZ (108) (by omega) p8 (x) (by omega) (by omega) d_M_better_44 ?_
      refine z_top (y := (nI (t.2))) tc ?_
      refine lv_icmp_le (tgt := 52) hF.1 hF.2.1 d_M_better_45 (by decide) (fun z => ?_) (fun z => ?_)
      · have z := (nI_leI (by omega) (by omega)).mp z
        refine lv_iconst (v := (nI (0))) hF.1 hF.2.1 d_M_better_52 (by decide) ?_
        refine lv_goto (tgt := 62) hF.1 hF.2.1 d_M_better_53 (by decide) ?_
        exact z_iret hF hr hlocks hZ (by decide) ⟨rfl, by rw [if_pos q, if_neg r, decide_eq_false (by omega)]; rfl⟩ d_M_better_62
      · have z : t.2 < u.2 := Nat.lt_of_not_le (fun y => z (nI_le y (by omega)))
        refine lv_iconst (v := (nI (1))) hF.1 hF.2.1 d_M_better_48 (by decide) ?_
        refine lv_goto (tgt := 62) hF.1 hF.2.1 d_M_better_49 (by decide) ?_
        exact z_iret hF hr hlocks hZ (by decide) ⟨rfl, by rw [if_pos q, if_neg r, decide_eq_true z]; rfl⟩ d_M_better_62
  · have q : ¬ a = b := fun z => q (by rw [z])
    refine lv_iload_n hF.1 hF.2.1 d_M_better_6 rfl (lv_at hl 2 rfl) ?_
    refine lv_iload hF.1 hF.2.1 d_M_better_7 (lv_at hl 4 rfl) ?_
    refine lv_icmp_ge (tgt := 16) hF.1 hF.2.1 d_M_better_9 (by decide) (fun z => ?_) (fun z => ?_)
    · have z := (nI_leI hb ha).mp z
      refine lv_iconst (v := (nI (0))) hF.1 hF.2.1 d_M_better_16 (by decide) ?_
      exact z_iret hF hr hlocks hZ (by decide) ⟨rfl, by rw [if_neg q, decide_eq_false (by omega)]; rfl⟩ d_M_better_17
    · have z : a < b := Nat.lt_of_not_le (fun y => z (nI_le y ha))
      refine lv_iconst (v := (nI (1))) hF.1 hF.2.1 d_M_better_12 (by decide) ?_
      refine lv_goto (tgt := 17) hF.1 hF.2.1 d_M_better_13 (by decide) ?_
      exact z_iret hF hr hlocks hZ (by decide) ⟨rfl, by rw [if_neg q, decide_eq_true z]; rfl⟩ d_M_better_17
set_option maxHeartbeats 4000000 in
set_option maxRecDepth 100000 in
theorem c_M_suggest (l : Launch) {G : zG} {ad : Nat → Nat} {en : Nat → va_E} {N : Nat} {T : List Nat} {mw : List wd_W} (hN : 111 ≤ N) (h : pM G ad en T mw) {C : List wd_W} (hpm : C.Perm mw) (hso : wd_so C) {i0 dd : Int32} : zMi l y_M_suggest b_M_suggest 8 .int 4 G ad en N [.ref (ad (104)), .int (i0), .int (dd)] (fun v en1 => pM G ad en1 T mw ∧ (∀ r, r ≠ 109 → en1 r = en r) ∧ wd_sug C (dist T) (fun u => decide (nI (dist T u) ≤ dd)) i0 v) := by
  have hlen := hpm.length_eq
  refine z_met (by decide) (Nat.le_of_ble_eq_true rfl) ?_
  intro p e s m below meth c ls hF hr hlocks hnam hZ hl
  have hF : CallFix p m c b_M_suggest 8 s ([.ref (ad (104)), .int (i0), .int (dd)] : List Value).toArray zz R_M := hF
  have hl : lv_has ls 8 [(0, .ref (ad (104))), (1, .int (i0)), (2, .int (dd))] := hl
  have inner : ∀ (n x c0 w : Nat) (u : wd_W) (en1 : Nat → va_E) (H : Heap) (locs : List Loc) (ls : Array Slot), mw[w]? = some u → x + n = mw.length → pM G ad en1 T mw → (∀ r, r ≠ 109 → en1 r = en r) → c0 = (mw.take x).countP (fun v => decide (nI (dist T v) ≤ dd) && wd_bt (dist T) v u) → (∀ (en1 : Nat → va_E) (H : Heap) (locs : List Loc) (ls : Array Slot), pM G ad en1 T mw → (∀ r, r ≠ 109 → en1 r = en r) → lv_has ls 8 [(6, .int (nI (mw.length))), (5, .int (nI (mw.countP (fun v => decide (nI (dist T v) ≤ dd) && wd_bt (dist T) v u)))), (4, .int (nI (dist T u))), (3, .int (nI (w))), (0, .ref (ad (104))), (1, .int (i0)), (2, .int (dd))] → zH G ad en1 N s H locs → W p l e (zR 4) s m ([.ref (ad (104)), .int (i0), .int (dd)] : List Value).toArray below meth c H locs 0 0 (MQ below (zQi G ad N (fun v en1 => pM G ad en1 T mw ∧ (∀ r, r ≠ 109 → en1 r = en r) ∧ wd_sug C (dist T) (fun u => decide (nI (dist T u) ≤ dd)) i0 v)) ([.ref (ad (104)), .int (i0), .int (dd)] : List Value).toArray s 0 0 (zA G)) (F0 m 77 ls [])) → lv_has ls 8 [(6, .int (nI (x))), (5, .int (nI (c0))), (4, .int (nI (dist T u))), (3, .int (nI (w))), (0, .ref (ad (104))), (1, .int (i0)), (2, .int (dd))] → zH G ad en1 N s H locs → W p l e (zR 4) s m ([.ref (ad (104)), .int (i0), .int (dd)] : List Value).toArray below meth c H locs 0 0 (MQ below (zQi G ad N (fun v en1 => pM G ad en1 T mw ∧ (∀ r, r ≠ 109 → en1 r = en r) ∧ wd_sug C (dist T) (fun u => decide (nI (dist T u) ≤ dd)) i0 v)) ([.ref (ad (104)), .int (i0), .int (dd)] : List Value).toArray s 0 0 (zA G)) (F0 m 29 ls []) := by
    intro n
    induction n with
    | zero =>
      intro x c0 w u en1 H locs ls hw hin h1 hfr hp K hl hZ
      have hx : x = mw.length := by omega
      subst hx
      rw [List.take_length] at hp
      subst hp
      have hh := h1
      obtain ⟨p1, p2, p26, p3, ⟨ft, p4, p5⟩, ⟨fl, fs, fc, p6, p7, p8, p9⟩, ⟨fr, p10⟩, fj, p11⟩ := hh
      refine lv_iload hF.1 hF.2.1 d_M_suggest_29 (lv_at hl 0 rfl) ?_
      refine lv_aload_n hF.1 hF.2.1 d_M_suggest_31 rfl (lv_at hl 4 rfl) ?_
      refine gf_M_37 hF hZ (104) (by omega) p1 rfl d_M_suggest_32 ?_
      refine lv_icmp_ge (tgt := 77) hF.1 hF.2.1 d_M_suggest_35 (by decide) (fun _ => ?_) (fun h => absurd (nI_le (Nat.le_refl _) (by omega)) h)
      exact K en1 H locs ls h1 hfr hl hZ
    | succ n ih =>
      intro x c0 w u en1 H locs ls hw hin h1 hfr hp K hl hZ
      obtain ⟨t, hx⟩ := wd_some (show x < mw.length by omega)
      have hct := wd_cnt_s (fun v => decide (nI (dist T v) ≤ dd) && wd_bt (dist T) v u) hx
      have hh := h1
      obtain ⟨p1, p2, p26, p3, ⟨ft, p4, p5⟩, ⟨fl, fs, fc, p6, p7, p8, p9⟩, ⟨fr, p10⟩, fj, p11⟩ := hh
      have b1 := dist_18 p2 (p9 x t hx).1
      have b2 := dist_18 p2 (p9 w u hw).1
      refine lv_iload hF.1 hF.2.1 d_M_suggest_29 (lv_at hl 0 rfl) ?_
      refine lv_aload_n hF.1 hF.2.1 d_M_suggest_31 rfl (lv_at hl 4 rfl) ?_
      refine gf_M_37 hF hZ (104) (by omega) p1 rfl d_M_suggest_32 ?_
      refine lv_icmp_ge (tgt := 77) hF.1 hF.2.1 d_M_suggest_35 (by decide) (fun h => absurd h (nI_ge (show x < mw.length by omega) (by omega))) (fun _ => ?_)
      refine lv_aload_n hF.1 hF.2.1 d_M_suggest_38 rfl (lv_at hl 4 rfl) ?_
      refine lv_iload hF.1 hF.2.1 d_M_suggest_39 (lv_at hl 0 rfl) ?_
      refine lv_iconst (v := (nI (0))) hF.1 hF.2.1 d_M_suggest_41 (by decide) ?_
      refine lv_iconst (v := (nI (0))) hF.1 hF.2.1 d_M_suggest_42 (by decide) ?_
      refine z_calli hZ (z_run cw_M_64 hF hZ (104) (c_M_far l hN h1 hx (i := 0) (j := 0) (Nat.zero_le _) (Nat.zero_le _)) (by decide) (by omega) p1 rfl rfl hl.1 rfl (Nat.le_of_ble_eq_true rfl) d_M_suggest_43) (fun v en2 H locs hq hZ => ?_)
      obtain ⟨hv, ⟨f, e9⟩, hq2⟩ := hq
      subst hv
      have h2 := h1.k109 e9 hq2
      have hfr2 : ∀ r, r ≠ 109 → en2 r = en r := fun r hr => (hq2 r hr).trans (hfr r hr)
      have p1 := h2.1
      refine lv_istore hF.1 hF.2.1 d_M_suggest_46 hl (by decide) rfl (fun ls hl => ?_)
      have hl : lv_has ls 8 [(7, .int (nI (dist T t))), (6, .int (nI (x))), (5, .int (nI (c0))), (4, .int (nI (dist T u))), (3, .int (nI (w))), (0, .ref (ad (104))), (1, .int (i0)), (2, .int (dd))] := hl
      refine lv_iload hF.1 hF.2.1 d_M_suggest_48 (lv_at hl 0 rfl) ?_
      refine lv_iload_n hF.1 hF.2.1 d_M_suggest_50 rfl (lv_at hl 7 rfl) ?_
      refine lv_icmp_gt (tgt := 71) hF.1 hF.2.1 d_M_suggest_51 (by decide) (fun q => ?_) (fun q => ?_)
      · have q : ¬ nI (dist T t) ≤ dd := fun z => by
          rw [Int32.lt_iff_toInt_lt] at q; rw [Int32.le_iff_toInt_le] at z; exact absurd z (Int.not_le.mpr q)
        refine lv_iinc (k := 1) (v := (nI (x + 1))) hF.1 hF.2.1 d_M_suggest_71 hl rfl (iinc_p (x)) (by decide) rfl (fun ls hl => ?_)
        have hl : lv_has ls 8 [(6, .int (nI (x + 1))), (7, .int (nI (dist T t))), (5, .int (nI (c0))), (4, .int (nI (dist T u))), (3, .int (nI (w))), (0, .ref (ad (104))), (1, .int (i0)), (2, .int (dd))] := hl
        refine lv_goto (tgt := 29) hF.1 hF.2.1 d_M_suggest_74 (by decide) ?_
        exact ih (x + 1) c0 w u en2 H locs ls hw (by omega) h2 hfr2 (by rw [hct, decide_eq_false q, ← hp]; rfl) K (lv_sub hl [0, 2, 3, 4, 5, 6, 7] rfl) hZ
      · have q : nI (dist T t) ≤ dd := by
          rw [Int32.le_iff_toInt_le]; exact Int.not_lt.mp (fun z => q (Int32.lt_iff_toInt_lt.mpr z))
        refine lv_aload_n hF.1 hF.2.1 d_M_suggest_54 rfl (lv_at hl 5 rfl) ?_
        refine lv_iload hF.1 hF.2.1 d_M_suggest_55 (lv_at hl 1 rfl) ?_
        refine lv_iload hF.1 hF.2.1 d_M_suggest_57 (lv_at hl 0 rfl) ?_
        refine lv_iload_n hF.1 hF.2.1 d_M_suggest_59 rfl (lv_at hl 4 rfl) ?_
        refine lv_iload hF.1 hF.2.1 d_M_suggest_60 (lv_at hl 3 rfl) ?_
        refine z_calli hZ (z_run cw_M_68 hF hZ (104) (c_M_better l hN h2 hx hw (a := dist T t) (b := dist T u) (by omega) (by omega)) (by decide) (by omega) p1 rfl rfl hl.1 rfl (Nat.le_of_ble_eq_true rfl) d_M_suggest_62) (fun v enq H locs hp hZ => ?_)
        obtain ⟨he, hv⟩ := hp
        subst hv
        have hZ := hZ.to he
        refine lv_if_eq (tgt := 71) hF.1 hF.2.1 d_M_suggest_65 (by decide) (fun y => ?_) (fun y => ?_)
        · have y : wd_bt (dist T) t u = false := bI_0.mp y
          refine lv_iinc (k := 1) (v := (nI (x + 1))) hF.1 hF.2.1 d_M_suggest_71 hl rfl (iinc_p (x)) (by decide) rfl (fun ls hl => ?_)
          have hl : lv_has ls 8 [(6, .int (nI (x + 1))), (7, .int (nI (dist T t))), (5, .int (nI (c0))), (4, .int (nI (dist T u))), (3, .int (nI (w))), (0, .ref (ad (104))), (1, .int (i0)), (2, .int (dd))] := hl
          refine lv_goto (tgt := 29) hF.1 hF.2.1 d_M_suggest_74 (by decide) ?_
          exact ih (x + 1) c0 w u en2 H locs ls hw (by omega) h2 hfr2 (by rw [hct, decide_eq_true q, y, ← hp]; rfl) K (lv_sub hl [0, 2, 3, 4, 5, 6, 7] rfl) hZ
        · have y : wd_bt (dist T) t u = true := bI_1 y
          refine lv_iinc (k := 2) (v := (nI (c0 + 1))) hF.1 hF.2.1 d_M_suggest_68 hl rfl (iinc_p (c0)) (by decide) rfl (fun ls hl => ?_)
          have hl : lv_has ls 8 [(5, .int (nI (c0 + 1))), (7, .int (nI (dist T t))), (6, .int (nI (x))), (4, .int (nI (dist T u))), (3, .int (nI (w))), (0, .ref (ad (104))), (1, .int (i0)), (2, .int (dd))] := hl
          refine lv_iinc (k := 2) (v := (nI (x + 1))) hF.1 hF.2.1 d_M_suggest_71 hl rfl (iinc_p (x)) (by decide) rfl (fun ls hl => ?_)
          have hl : lv_has ls 8 [(6, .int (nI (x + 1))), (5, .int (nI (c0 + 1))), (7, .int (nI (dist T t))), (4, .int (nI (dist T u))), (3, .int (nI (w))), (0, .ref (ad (104))), (1, .int (i0)), (2, .int (dd))] := hl
          refine lv_goto (tgt := 29) hF.1 hF.2.1 d_M_suggest_74 (by decide) ?_
          exact ih (x + 1) (c0 + 1) w u en2 H locs ls hw (by omega) h2 hfr2 (by rw [hct, decide_eq_true q, y, ← hp]; rfl) K (lv_sub hl [0, 1, 3, 4, 5, 6, 7] rfl) hZ
  have outer : ∀ (n i : Nat) (en1 : Nat → va_E) (H : Heap) (locs : List Loc) (ls : Array Slot), (i + n = mw.length) → (pM G ad en1 T mw) → (∀ r, r ≠ 109 → en1 r = en r) → (∀ k v, k < i → mw[k]? = some v → nI (dist T v) ≤ dd → ¬ i0 = nI (mw.countP (fun v2 => decide (nI (dist T v2) ≤ dd) && wd_bt (dist T) v2 v))) → lv_has ls 8 [(3, .int (nI (i))), (0, .ref (ad (104))), (1, .int (i0)), (2, .int (dd))] → zH G ad en1 N s H locs → W p l e (zR 4) s m ([.ref (ad (104)), .int (i0), .int (dd)] : List Value).toArray below meth c H locs 0 0 (MQ below (zQi G ad N (fun v en1 => pM G ad en1 T mw ∧ (∀ r, r ≠ 109 → en1 r = en r) ∧ wd_sug C (dist T) (fun u => decide (nI (dist T u) ≤ dd)) i0 v)) ([.ref (ad (104)), .int (i0), .int (dd)] : List Value).toArray s 0 0 (zA G)) (F0 m 2 ls []) := by
    intro n
    induction n with
    | zero =>
      intro i en1 H locs ls hin h1 hfr hp hl hZ
      have hh := h1
      obtain ⟨p1, p2, p26, p3, ⟨ft, p4, p5⟩, ⟨fl, fs, fc, p6, p7, p8, p9⟩, ⟨fr, p10⟩, fj, p11⟩ := hh
      refine lv_iload_n hF.1 hF.2.1 d_M_suggest_2 rfl (lv_at hl 0 rfl) ?_
      refine lv_aload_n hF.1 hF.2.1 d_M_suggest_3 rfl (lv_at hl 1 rfl) ?_
      refine gf_M_37 hF hZ (104) (by omega) p1 rfl d_M_suggest_4 ?_
      refine lv_icmp_ge (tgt := 101) hF.1 hF.2.1 d_M_suggest_7 (by decide) (fun _ => ?_) (fun h => absurd (nI_le (by omega) (by omega)) h)
      refine lv_iconst (v := ((-1))) hF.1 hF.2.1 d_M_suggest_101 (by decide) ?_
      refine z_iret hF hr hlocks hZ rfl ⟨h1, hfr, Or.inr ⟨rfl, fun v hv qv => ?_⟩⟩ d_M_suggest_102
      obtain ⟨k, hk⟩ := List.getElem?_of_mem (hpm.mem_iff.mp hv)
      rw [hpm.countP_eq]
      exact hp k v (by have := wd_lt_of hk; omega) hk (of_decide_eq_true qv)
    | succ n ih =>
      intro i en1 H locs ls hin h1 hfr hp hl hZ
      obtain ⟨u, hi⟩ := wd_some (show i < mw.length by omega)
      obtain ⟨j, hj, hrk⟩ := wd_rank2 hpm hso hi
      have hh := h1
      obtain ⟨p1, p2, p26, p3, ⟨ft, p4, p5⟩, ⟨fl, fs, fc, p6, p7, p8, p9⟩, ⟨fr, p10⟩, fj, p11⟩ := hh
      refine lv_iload_n hF.1 hF.2.1 d_M_suggest_2 rfl (lv_at hl 0 rfl) ?_
      refine lv_aload_n hF.1 hF.2.1 d_M_suggest_3 rfl (lv_at hl 1 rfl) ?_
      refine gf_M_37 hF hZ (104) (by omega) p1 rfl d_M_suggest_4 ?_
      refine lv_icmp_ge (tgt := 101) hF.1 hF.2.1 d_M_suggest_7 (by decide) (fun h => absurd h (nI_ge (show i < mw.length by omega) (by omega))) (fun _ => ?_)
      refine lv_iload_n hF.1 hF.2.1 d_M_suggest_10 rfl (lv_at hl 2 rfl) ?_
      refine lv_if_lt (tgt := 101) hF.1 hF.2.1 d_M_suggest_11 (by decide) (fun z0 => ?_) (fun z0 => ?_)
      · refine lv_iconst (v := ((-1))) hF.1 hF.2.1 d_M_suggest_101 (by decide) ?_
        refine z_iret hF hr hlocks hZ rfl ⟨h1, hfr, Or.inr ⟨rfl, fun v hv qv => ?_⟩⟩ d_M_suggest_102
        intro z
        rw [z] at z0
        exact nI_pos (Nat.lt_of_le_of_lt List.countP_le_length (by omega)) z0
      · refine lv_aload_n hF.1 hF.2.1 d_M_suggest_14 rfl (lv_at hl 1 rfl) ?_
        refine lv_iload_n hF.1 hF.2.1 d_M_suggest_15 rfl (lv_at hl 0 rfl) ?_
        refine lv_iconst (v := (nI (0))) hF.1 hF.2.1 d_M_suggest_16 (by decide) ?_
        refine lv_iconst (v := (nI (0))) hF.1 hF.2.1 d_M_suggest_17 (by decide) ?_
        refine z_calli hZ (z_run cw_M_64 hF hZ (104) (c_M_far l hN h1 hi (i := 0) (j := 0) (Nat.zero_le _) (Nat.zero_le _)) (by decide) (by omega) p1 rfl rfl hl.1 rfl (Nat.le_of_ble_eq_true rfl) d_M_suggest_18) (fun v en2 H locs hq hZ => ?_)
        obtain ⟨hv, ⟨f, e9⟩, hq2⟩ := hq
        subst hv
        have h2 := h1.k109 e9 hq2
        have hfr2 : ∀ r, r ≠ 109 → en2 r = en r := fun r hr => (hq2 r hr).trans (hfr r hr)
        refine lv_istore hF.1 hF.2.1 d_M_suggest_21 hl (by decide) rfl (fun ls hl => ?_)
        have hl : lv_has ls 8 [(4, .int (nI (dist T u))), (3, .int (nI (i))), (0, .ref (ad (104))), (1, .int (i0)), (2, .int (dd))] := hl
        refine lv_iconst (v := (nI (0))) hF.1 hF.2.1 d_M_suggest_23 (by decide) ?_
        refine lv_istore hF.1 hF.2.1 d_M_suggest_24 hl (by decide) rfl (fun ls hl => ?_)
        have hl : lv_has ls 8 [(5, .int (nI (0))), (4, .int (nI (dist T u))), (3, .int (nI (i))), (0, .ref (ad (104))), (1, .int (i0)), (2, .int (dd))] := hl
        refine lv_iconst (v := (nI (0))) hF.1 hF.2.1 d_M_suggest_26 (by decide) ?_
        refine lv_istore hF.1 hF.2.1 d_M_suggest_27 hl (by decide) rfl (fun ls hl => ?_)
        have hl : lv_has ls 8 [(6, .int (nI (0))), (5, .int (nI (0))), (4, .int (nI (dist T u))), (3, .int (nI (i))), (0, .ref (ad (104))), (1, .int (i0)), (2, .int (dd))] := hl
        refine inner mw.length 0 0 i u en2 H locs ls hi (by omega) h2 hfr2 (by rw [List.take_zero]; rfl) (fun en1 H locs ls h1 hfr hl hZ => ?_) hl hZ
        have p1 := h1.1
        refine lv_iload hF.1 hF.2.1 d_M_suggest_77 (lv_at hl 2 rfl) ?_
        refine lv_iload_n hF.1 hF.2.1 d_M_suggest_79 rfl (lv_at hl 6 rfl) ?_
        refine lv_icmp_gt (tgt := 95) hF.1 hF.2.1 d_M_suggest_80 (by decide) (fun q => ?_) (fun q => ?_)
        · have q : ¬ nI (dist T u) ≤ dd := fun z => by
            rw [Int32.lt_iff_toInt_lt] at q; rw [Int32.le_iff_toInt_le] at z; exact absurd z (Int.not_le.mpr q)
          refine lv_iinc (k := 3) (v := (nI (i + 1))) hF.1 hF.2.1 d_M_suggest_95 hl rfl (iinc_p (i)) (by decide) rfl (fun ls hl => ?_)
          have hl : lv_has ls 8 [(3, .int (nI (i + 1))), (6, .int (nI (mw.length))), (5, .int (nI (mw.countP (fun v => decide (nI (dist T v) ≤ dd) && wd_bt (dist T) v u)))), (4, .int (nI (dist T u))), (0, .ref (ad (104))), (1, .int (i0)), (2, .int (dd))] := hl
          refine lv_goto (tgt := 2) hF.1 hF.2.1 d_M_suggest_98 (by decide) ?_
          refine ih (i + 1) en1 H locs ls (by omega) h1 hfr (fun k v hk hv qv => ?_) (lv_sub hl [0, 4, 5, 6] rfl) hZ
          by_cases y : k = i
          · subst y; cases hi.symm.trans hv; exact absurd qv q
          · exact hp k v (by omega) hv qv
        · have q : nI (dist T u) ≤ dd := by
            rw [Int32.le_iff_toInt_le]; exact Int.not_lt.mp (fun z => q (Int32.lt_iff_toInt_lt.mpr z))
          refine lv_iload hF.1 hF.2.1 d_M_suggest_83 (lv_at hl 1 rfl) ?_
          refine lv_iload_n hF.1 hF.2.1 d_M_suggest_85 rfl (lv_at hl 5 rfl) ?_
          refine lv_icmp_ne (tgt := 95) hF.1 hF.2.1 d_M_suggest_86 (by decide) (fun y2 => ?_) (fun y2 => ?_)
          · refine lv_iinc (k := 3) (v := (nI (i + 1))) hF.1 hF.2.1 d_M_suggest_95 hl rfl (iinc_p (i)) (by decide) rfl (fun ls hl => ?_)
            have hl : lv_has ls 8 [(3, .int (nI (i + 1))), (6, .int (nI (mw.length))), (5, .int (nI (mw.countP (fun v => decide (nI (dist T v) ≤ dd) && wd_bt (dist T) v u)))), (4, .int (nI (dist T u))), (0, .ref (ad (104))), (1, .int (i0)), (2, .int (dd))] := hl
            refine lv_goto (tgt := 2) hF.1 hF.2.1 d_M_suggest_98 (by decide) ?_
            refine ih (i + 1) en1 H locs ls (by omega) h1 hfr (fun k v hk hv qv => ?_) (lv_sub hl [0, 4, 5, 6] rfl) hZ
            by_cases y : k = i
            · subst y; cases hi.symm.trans hv; exact fun z => y2 z.symm
            · exact hp k v (by omega) hv qv
          · refine lv_aload_n hF.1 hF.2.1 d_M_suggest_89 rfl (lv_at hl 4 rfl) ?_
            refine lv_iload_n hF.1 hF.2.1 d_M_suggest_90 rfl (lv_at hl 3 rfl) ?_
            refine z_calli hZ (z_run cw_M_44 hF hZ (104) (c_M_rankOf l hN h1 hi) (by decide) (by omega) p1 rfl rfl hl.1 rfl (Nat.le_of_ble_eq_true rfl) d_M_suggest_91) (fun v enq H locs hp hZ => ?_)
            obtain ⟨he, hv⟩ := hp
            subst hv
            have hZ := hZ.to he
            exact z_iret hF hr hlocks hZ rfl ⟨h1, hfr, Or.inl ⟨j, u, hj, decide_eq_true q, by rw [hpm.countP_eq]; exact y2.symm, by rw [hrk]⟩⟩ d_M_suggest_94
  refine lv_iconst (v := (nI (0))) hF.1 hF.2.1 d_M_suggest_0 (by decide) ?_
  refine lv_istore_n hF.1 hF.2.1 d_M_suggest_1 rfl hl (by decide) rfl (fun ls hl => ?_)
  have hl : lv_has ls 8 [(3, .int (nI (0))), (0, .ref (ad (104))), (1, .int (i0)), (2, .int (dd))] := hl
  exact outer mw.length 0 en _ _ ls (by omega) h (fun _ _ => rfl) (fun k v hk => absurd hk (Nat.not_lt_zero _)) hl hZ
set_option maxHeartbeats 4000000 in
set_option maxRecDepth 100000 in
theorem c_M_complete (l : Launch) {G : zG} {ad : Nat → Nat} {en : Nat → va_E} {N : Nat} {T : List Nat} {mw : List wd_W} (hN : 111 ≤ N) (h : pM G ad en T mw) {C : List wd_W} (hpm : C.Perm mw) (hso : wd_so C) {i0 : Int32} : zMi l y_M_complete b_M_complete 5 .int 4 G ad en N [.ref (ad (104)), .int (i0)] (fun v en1 => en1 = en ∧ wd_sug C (fun _ => 0) (fun u => wpre u.1 T) i0 v) := by
  have hlen := hpm.length_eq
  have hh := h
  obtain ⟨p1, p2, p26, p3, ⟨ft, p4, p5⟩, ⟨fl, fs, fc, p6, p7, p8, p9⟩, ⟨fr, p10⟩, fj, p11⟩ := hh
  refine z_met (by decide) (Nat.le_of_ble_eq_true rfl) ?_
  intro p e s m below meth c ls hF hr hlocks hnam hZ hl
  have hF : CallFix p m c b_M_complete 5 s ([.ref (ad (104)), .int (i0)] : List Value).toArray zz R_M := hF
  have hl : lv_has ls 5 [(0, .ref (ad (104))), (1, .int (i0))] := hl
  have inner : ∀ (n x c0 w : Nat) (u : wd_W) (H : Heap) (locs : List Loc) (ls : Array Slot), mw[w]? = some u → x + n = mw.length → c0 = (mw.take x).countP (fun v => wpre v.1 T && wd_bt (fun _ => 0) v u) → (∀ (H : Heap) (locs : List Loc) (ls : Array Slot), lv_has ls 5 [(4, .int (nI (mw.length))), (3, .int (nI (mw.countP (fun v => wpre v.1 T && wd_bt (fun _ => 0) v u)))), (2, .int (nI (w))), (0, .ref (ad (104))), (1, .int (i0))] → zH G ad en N s H locs → W p l e (zR 4) s m ([.ref (ad (104)), .int (i0)] : List Value).toArray below meth c H locs 0 0 (MQ below (zQi G ad N (fun v en1 => en1 = en ∧ wd_sug C (fun _ => 0) (fun u => wpre u.1 T) i0 v)) ([.ref (ad (104)), .int (i0)] : List Value).toArray s 0 0 (zA G)) (F0 m 58 ls [])) → lv_has ls 5 [(4, .int (nI (x))), (3, .int (nI (c0))), (2, .int (nI (w))), (0, .ref (ad (104))), (1, .int (i0))] → zH G ad en N s H locs → W p l e (zR 4) s m ([.ref (ad (104)), .int (i0)] : List Value).toArray below meth c H locs 0 0 (MQ below (zQi G ad N (fun v en1 => en1 = en ∧ wd_sug C (fun _ => 0) (fun u => wpre u.1 T) i0 v)) ([.ref (ad (104)), .int (i0)] : List Value).toArray s 0 0 (zA G)) (F0 m 19 ls []) := by
    intro n
    induction n with
    | zero =>
      intro x c0 w u H locs ls hw hin hp K hl hZ
      have hx : x = mw.length := by omega
      subst hx
      rw [List.take_length] at hp
      subst hp
      refine lv_iload hF.1 hF.2.1 d_M_complete_19 (lv_at hl 0 rfl) ?_
      refine lv_aload_n hF.1 hF.2.1 d_M_complete_21 rfl (lv_at hl 3 rfl) ?_
      refine gf_M_37 hF hZ (104) (by omega) p1 rfl d_M_complete_22 ?_
      refine lv_icmp_ge (tgt := 58) hF.1 hF.2.1 d_M_complete_25 (by decide) (fun _ => ?_) (fun h => absurd (nI_le (Nat.le_refl _) (by omega)) h)
      exact K H locs ls hl hZ
    | succ n ih =>
      intro x c0 w u H locs ls hw hin hp K hl hZ
      obtain ⟨t, hx⟩ := wd_some (show x < mw.length by omega)
      have hct := wd_cnt_s (fun v => wpre v.1 T && wd_bt (fun _ => 0) v u) hx
      refine lv_iload hF.1 hF.2.1 d_M_complete_19 (lv_at hl 0 rfl) ?_
      refine lv_aload_n hF.1 hF.2.1 d_M_complete_21 rfl (lv_at hl 3 rfl) ?_
      refine gf_M_37 hF hZ (104) (by omega) p1 rfl d_M_complete_22 ?_
      refine lv_icmp_ge (tgt := 58) hF.1 hF.2.1 d_M_complete_25 (by decide) (fun h => absurd h (nI_ge (show x < mw.length by omega) (by omega))) (fun _ => ?_)
      refine lv_aload_n hF.1 hF.2.1 d_M_complete_28 rfl (lv_at hl 3 rfl) ?_
      refine lv_iload hF.1 hF.2.1 d_M_complete_29 (lv_at hl 0 rfl) ?_
      refine z_calli hZ (z_run cw_M_48 hF hZ (104) (c_M_beginsTyped l hN h hx) (by decide) (by omega) p1 rfl rfl hl.1 rfl (Nat.le_of_ble_eq_true rfl) d_M_complete_31) (fun v enq H locs hp hZ => ?_)
      obtain ⟨he, hv⟩ := hp
      subst hv
      have hZ := hZ.to he
      refine lv_if_eq (tgt := 52) hF.1 hF.2.1 d_M_complete_34 (by decide) (fun q => ?_) (fun q => ?_)
      · have q := bI_0.mp q
        refine lv_iinc (k := 0) (v := (nI (x + 1))) hF.1 hF.2.1 d_M_complete_52 hl rfl (iinc_p (x)) (by decide) rfl (fun ls hl => ?_)
        have hl : lv_has ls 5 [(4, .int (nI (x + 1))), (3, .int (nI (c0))), (2, .int (nI (w))), (0, .ref (ad (104))), (1, .int (i0))] := hl
        refine lv_goto (tgt := 19) hF.1 hF.2.1 d_M_complete_55 (by decide) ?_
        exact ih (x + 1) c0 w u H locs ls hw (by omega) (by rw [hct, q, ← hp]; rfl) K (lv_sub hl [0, 1, 2, 3, 4] rfl) hZ
      · have q := bI_1 q
        refine lv_aload_n hF.1 hF.2.1 d_M_complete_37 rfl (lv_at hl 3 rfl) ?_
        refine lv_iload hF.1 hF.2.1 d_M_complete_38 (lv_at hl 0 rfl) ?_
        refine lv_iconst (v := (nI (0))) hF.1 hF.2.1 d_M_complete_40 (by decide) ?_
        refine lv_iload_n hF.1 hF.2.1 d_M_complete_41 rfl (lv_at hl 2 rfl) ?_
        refine lv_iconst (v := (nI (0))) hF.1 hF.2.1 d_M_complete_42 (by decide) ?_
        refine z_calli hZ (z_run cw_M_68 hF hZ (104) (c_M_better l hN h hx hw (a := 0) (b := 0) (by omega) (by omega)) (by decide) (by omega) p1 rfl rfl hl.1 rfl (Nat.le_of_ble_eq_true rfl) d_M_complete_43) (fun v enq H locs hp hZ => ?_)
        obtain ⟨he, hv⟩ := hp
        subst hv
        have hZ := hZ.to he
        refine lv_if_eq (tgt := 52) hF.1 hF.2.1 d_M_complete_46 (by decide) (fun y => ?_) (fun y => ?_)
        · have y : wd_bt (fun _ => 0) t u = false := bI_0.mp y
          refine lv_iinc (k := 0) (v := (nI (x + 1))) hF.1 hF.2.1 d_M_complete_52 hl rfl (iinc_p (x)) (by decide) rfl (fun ls hl => ?_)
          have hl : lv_has ls 5 [(4, .int (nI (x + 1))), (3, .int (nI (c0))), (2, .int (nI (w))), (0, .ref (ad (104))), (1, .int (i0))] := hl
          refine lv_goto (tgt := 19) hF.1 hF.2.1 d_M_complete_55 (by decide) ?_
          exact ih (x + 1) c0 w u H locs ls hw (by omega) (by rw [hct, q, y, ← hp]; rfl) K (lv_sub hl [0, 1, 2, 3, 4] rfl) hZ
        · have y : wd_bt (fun _ => 0) t u = true := bI_1 y
          refine lv_iinc (k := 1) (v := (nI (c0 + 1))) hF.1 hF.2.1 d_M_complete_49 hl rfl (iinc_p (c0)) (by decide) rfl (fun ls hl => ?_)
          have hl : lv_has ls 5 [(3, .int (nI (c0 + 1))), (4, .int (nI (x))), (2, .int (nI (w))), (0, .ref (ad (104))), (1, .int (i0))] := hl
          refine lv_iinc (k := 1) (v := (nI (x + 1))) hF.1 hF.2.1 d_M_complete_52 hl rfl (iinc_p (x)) (by decide) rfl (fun ls hl => ?_)
          have hl : lv_has ls 5 [(4, .int (nI (x + 1))), (3, .int (nI (c0 + 1))), (2, .int (nI (w))), (0, .ref (ad (104))), (1, .int (i0))] := hl
          refine lv_goto (tgt := 19) hF.1 hF.2.1 d_M_complete_55 (by decide) ?_
          exact ih (x + 1) (c0 + 1) w u H locs ls hw (by omega) (by rw [hct, q, y, ← hp]; rfl) K (lv_sub hl [0, 1, 2, 3, 4] rfl) hZ
  have outer : ∀ (n i : Nat) (H : Heap) (locs : List Loc) (ls : Array Slot), (i + n = mw.length) → (∀ k v, k < i → mw[k]? = some v → wpre v.1 T = true → ¬ i0 = nI (mw.countP (fun v2 => wpre v2.1 T && wd_bt (fun _ => 0) v2 v))) → lv_has ls 5 [(2, .int (nI (i))), (0, .ref (ad (104))), (1, .int (i0))] → zH G ad en N s H locs → W p l e (zR 4) s m ([.ref (ad (104)), .int (i0)] : List Value).toArray below meth c H locs 0 0 (MQ below (zQi G ad N (fun v en1 => en1 = en ∧ wd_sug C (fun _ => 0) (fun u => wpre u.1 T) i0 v)) ([.ref (ad (104)), .int (i0)] : List Value).toArray s 0 0 (zA G)) (F0 m 2 ls []) := by
    intro n
    induction n with
    | zero =>
      intro i H locs ls hin hp hl hZ
      refine lv_iload_n hF.1 hF.2.1 d_M_complete_2 rfl (lv_at hl 0 rfl) ?_
      refine lv_aload_n hF.1 hF.2.1 d_M_complete_3 rfl (lv_at hl 1 rfl) ?_
      refine gf_M_37 hF hZ (104) (by omega) p1 rfl d_M_complete_4 ?_
      refine lv_icmp_ge (tgt := 83) hF.1 hF.2.1 d_M_complete_7 (by decide) (fun _ => ?_) (fun h => absurd (nI_le (by omega) (by omega)) h)
      refine lv_iconst (v := ((-1))) hF.1 hF.2.1 d_M_complete_83 (by decide) ?_
      refine z_iret hF hr hlocks hZ rfl ⟨rfl, Or.inr ⟨rfl, fun v hv qv => ?_⟩⟩ d_M_complete_84
      obtain ⟨k, hk⟩ := List.getElem?_of_mem (hpm.mem_iff.mp hv)
      rw [hpm.countP_eq]
      exact hp k v (by have := wd_lt_of hk; omega) hk qv
    | succ n ih =>
      intro i H locs ls hin hp hl hZ
      obtain ⟨u, hi⟩ := wd_some (show i < mw.length by omega)
      obtain ⟨j, hj, hrk⟩ := wd_rank2 hpm hso hi
      refine lv_iload_n hF.1 hF.2.1 d_M_complete_2 rfl (lv_at hl 0 rfl) ?_
      refine lv_aload_n hF.1 hF.2.1 d_M_complete_3 rfl (lv_at hl 1 rfl) ?_
      refine gf_M_37 hF hZ (104) (by omega) p1 rfl d_M_complete_4 ?_
      refine lv_icmp_ge (tgt := 83) hF.1 hF.2.1 d_M_complete_7 (by decide) (fun h => absurd h (nI_ge (show i < mw.length by omega) (by omega))) (fun _ => ?_)
      refine lv_iload_n hF.1 hF.2.1 d_M_complete_10 rfl (lv_at hl 2 rfl) ?_
      refine lv_if_lt (tgt := 83) hF.1 hF.2.1 d_M_complete_11 (by decide) (fun z0 => ?_) (fun z0 => ?_)
      · refine lv_iconst (v := ((-1))) hF.1 hF.2.1 d_M_complete_83 (by decide) ?_
        refine z_iret hF hr hlocks hZ rfl ⟨rfl, Or.inr ⟨rfl, fun v hv qv => ?_⟩⟩ d_M_complete_84
        intro z
        rw [z] at z0
        exact nI_pos (Nat.lt_of_le_of_lt List.countP_le_length (by omega)) z0
      · refine lv_iconst (v := (nI (0))) hF.1 hF.2.1 d_M_complete_14 (by decide) ?_
        refine lv_istore_n hF.1 hF.2.1 d_M_complete_15 rfl hl (by decide) rfl (fun ls hl => ?_)
        have hl : lv_has ls 5 [(3, .int (nI (0))), (2, .int (nI (i))), (0, .ref (ad (104))), (1, .int (i0))] := hl
        refine lv_iconst (v := (nI (0))) hF.1 hF.2.1 d_M_complete_16 (by decide) ?_
        refine lv_istore hF.1 hF.2.1 d_M_complete_17 hl (by decide) rfl (fun ls hl => ?_)
        have hl : lv_has ls 5 [(4, .int (nI (0))), (3, .int (nI (0))), (2, .int (nI (i))), (0, .ref (ad (104))), (1, .int (i0))] := hl
        refine inner mw.length 0 0 i u H locs ls hi (by omega) (by rw [List.take_zero]; rfl) (fun H locs ls hl hZ => ?_) hl hZ
        refine lv_aload_n hF.1 hF.2.1 d_M_complete_58 rfl (lv_at hl 3 rfl) ?_
        refine lv_iload_n hF.1 hF.2.1 d_M_complete_59 rfl (lv_at hl 2 rfl) ?_
        refine z_calli hZ (z_run cw_M_48 hF hZ (104) (c_M_beginsTyped l hN h hi) (by decide) (by omega) p1 rfl rfl hl.1 rfl (Nat.le_of_ble_eq_true rfl) d_M_complete_60) (fun v enq H locs hp hZ => ?_)
        obtain ⟨he, hv⟩ := hp
        subst hv
        have hZ := hZ.to he
        refine lv_if_eq (tgt := 77) hF.1 hF.2.1 d_M_complete_63 (by decide) (fun q => ?_) (fun q => ?_)
        · have q := bI_0.mp q
          refine lv_iinc (k := 2) (v := (nI (i + 1))) hF.1 hF.2.1 d_M_complete_77 hl rfl (iinc_p (i)) (by decide) rfl (fun ls hl => ?_)
          have hl : lv_has ls 5 [(2, .int (nI (i + 1))), (4, .int (nI (mw.length))), (3, .int (nI (mw.countP (fun v => wpre v.1 T && wd_bt (fun _ => 0) v u)))), (0, .ref (ad (104))), (1, .int (i0))] := hl
          refine lv_goto (tgt := 2) hF.1 hF.2.1 d_M_complete_80 (by decide) ?_
          refine ih (i + 1) H locs ls (by omega) (fun k v hk hv qv => ?_) (lv_sub hl [0, 3, 4] rfl) hZ
          by_cases y : k = i
          · subst y; cases hi.symm.trans hv; rw [q] at qv; cases qv
          · exact hp k v (by omega) hv qv
        · have q := bI_1 q
          refine lv_iload_n hF.1 hF.2.1 d_M_complete_66 rfl (lv_at hl 1 rfl) ?_
          refine lv_iload_n hF.1 hF.2.1 d_M_complete_67 rfl (lv_at hl 4 rfl) ?_
          refine lv_icmp_ne (tgt := 77) hF.1 hF.2.1 d_M_complete_68 (by decide) (fun y2 => ?_) (fun y2 => ?_)
          · refine lv_iinc (k := 2) (v := (nI (i + 1))) hF.1 hF.2.1 d_M_complete_77 hl rfl (iinc_p (i)) (by decide) rfl (fun ls hl => ?_)
            have hl : lv_has ls 5 [(2, .int (nI (i + 1))), (4, .int (nI (mw.length))), (3, .int (nI (mw.countP (fun v => wpre v.1 T && wd_bt (fun _ => 0) v u)))), (0, .ref (ad (104))), (1, .int (i0))] := hl
            refine lv_goto (tgt := 2) hF.1 hF.2.1 d_M_complete_80 (by decide) ?_
            refine ih (i + 1) H locs ls (by omega) (fun k v hk hv qv => ?_) (lv_sub hl [0, 3, 4] rfl) hZ
            by_cases y : k = i
            · subst y; cases hi.symm.trans hv; exact fun z => y2 z.symm
            · exact hp k v (by omega) hv qv
          · refine lv_aload_n hF.1 hF.2.1 d_M_complete_71 rfl (lv_at hl 3 rfl) ?_
            refine lv_iload_n hF.1 hF.2.1 d_M_complete_72 rfl (lv_at hl 2 rfl) ?_
            refine z_calli hZ (z_run cw_M_44 hF hZ (104) (c_M_rankOf l hN h hi) (by decide) (by omega) p1 rfl rfl hl.1 rfl (Nat.le_of_ble_eq_true rfl) d_M_complete_73) (fun v enq H locs hp hZ => ?_)
            obtain ⟨he, hv⟩ := hp
            subst hv
            have hZ := hZ.to he
            exact z_iret hF hr hlocks hZ rfl ⟨rfl, Or.inl ⟨j, u, hj, q, by rw [hpm.countP_eq]; exact y2.symm, by rw [hrk]⟩⟩ d_M_complete_76
  refine lv_iconst (v := (nI (0))) hF.1 hF.2.1 d_M_complete_0 (by decide) ?_
  refine lv_istore_n hF.1 hF.2.1 d_M_complete_1 rfl hl (by decide) rfl (fun ls hl => ?_)
  have hl : lv_has ls 5 [(2, .int (nI (0))), (0, .ref (ad (104))), (1, .int (i0))] := hl
  exact outer mw.length 0 _ _ ls (by omega) (fun k v hk => absurd hk (Nat.not_lt_zero _)) hl hZ
