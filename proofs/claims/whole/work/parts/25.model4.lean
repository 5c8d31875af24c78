set_option maxHeartbeats 4000000 in
set_option maxRecDepth 100000 in
theorem c_M_next (l : Launch) {G : zG} {ad : Nat → Nat} {en : Nat → va_E} {N : Nat} {T : List Nat} {mw : List wd_W} (hN : 111 ≤ N) (h : pM G ad en T mw) {w : Nat} {u : wd_W} (hw : mw[w]? = some u) {x y d : Nat} (hx : x ≤ T.length) (hy : y ≤ u.1.length) (hd : d = ed_d T u.1 x y) : zMi l y_M_next b_M_next 9 .int 3 G ad en N [.ref (ad (104)), .int (nI (w)), .int (nI (x)), .int (nI (y)), .int (nI (d))] (fun v en1 => pM G ad en1 T mw ∧ (∀ r, r ≠ 109 → en1 r = en r) ∧ v = iv (if x = T.length ∧ y = u.1.length then 0 else ed_f T u.1 x y + 1)) := by
  have hh := h
  obtain ⟨p1, p2, p26, p3, ⟨ft, p4, p5⟩, ⟨fl, fs, fc, p6, p7, p8, p9⟩, ⟨fr, p10⟩, fj, p11⟩ := hh
  have hwl := wd_lt_of hw
  obtain ⟨u8, u26, ut, us, uc, ul⟩ := p9 w u hw
  have b0 := ed_18 hx hy p2 u8
  refine z_met (by decide) (Nat.le_of_ble_eq_true rfl) ?_
  intro p e s m below meth c ls hF hr hlocks hnam hZ hl
  have hF : CallFix p m c b_M_next 9 s ([.ref (ad (104)), .int (nI (w)), .int (nI (x)), .int (nI (y)), .int (nI (d))] : List Value).toArray zz R_M := hF
  have hl : lv_has ls 9 [(0, .ref (ad (104))), (1, .int (nI (w))), (2, .int (nI (x))), (3, .int (nI (y))), (4, .int (nI (d)))] := hl
  refine lv_iload_n hF.1 hF.2.1 d_M_next_0 rfl (lv_at hl 2 rfl) ?_
  refine lv_aload_n hF.1 hF.2.1 d_M_next_1 rfl (lv_at hl 0 rfl) ?_
  refine gf_M_29 hF hZ (104) (by omega) p1 rfl d_M_next_2 ?_
  refine lv_icmp_ge (tgt := 12) hF.1 hF.2.1 d_M_next_5 (by decide) (fun xm => ?_) (fun xm => ?_)
  · have xm : x = T.length := by have := (nI_leI (by omega) (by omega)).mp xm; omega
    refine lv_iconst (v := (nI (0))) hF.1 hF.2.1 d_M_next_12 (by decide) ?_
    refine lv_istore hF.1 hF.2.1 d_M_next_13 hl (by decide) rfl (fun ls hl => ?_)
    have hl : lv_has ls 9 [(5, .int (nI (0))), (0, .ref (ad (104))), (1, .int (nI (w))), (2, .int (nI (x))), (3, .int (nI (y))), (4, .int (nI (d)))] := hl
    refine lv_iload_n hF.1 hF.2.1 d_M_next_15 rfl (lv_at hl 4 rfl) ?_
    refine lv_aload_n hF.1 hF.2.1 d_M_next_16 rfl (lv_at hl 1 rfl) ?_
    refine gf_M_16 hF hZ (104) (by omega) p1 rfl d_M_next_17 ?_
    refine lv_iload_n hF.1 hF.2.1 d_M_next_20 rfl (lv_at hl 2 rfl) ?_
    refine z_iald hF hZ (107) (by omega) p7 (w) (by omega) (by omega) d_M_next_21 ?_
    refine z_top (y := (nI (u.1.length))) us ?_
    refine lv_icmp_ge (tgt := 29) hF.1 hF.2.1 d_M_next_22 (by decide) (fun yc => ?_) (fun yc => ?_)
    · have yc : y = u.1.length := by have := (nI_leI (by omega) (by omega)).mp yc; omega
      refine lv_iconst (v := (nI (0))) hF.1 hF.2.1 d_M_next_29 (by decide) ?_
      refine lv_istore hF.1 hF.2.1 d_M_next_30 hl (by decide) rfl (fun ls hl => ?_)
      have hl : lv_has ls 9 [(6, .int (nI (0))), (5, .int (nI (0))), (0, .ref (ad (104))), (1, .int (nI (w))), (2, .int (nI (x))), (3, .int (nI (y))), (4, .int (nI (d)))] := hl
      refine lv_iload hF.1 hF.2.1 d_M_next_32 (lv_at hl 1 rfl) ?_
      refine lv_if_eq (tgt := 112) hF.1 hF.2.1 d_M_next_34 (by decide) (fun _ => ?_) (fun h => absurd (by decide) h)
      refine lv_iload hF.1 hF.2.1 d_M_next_112 (lv_at hl 1 rfl) ?_
      refine lv_if_eq (tgt := 135) hF.1 hF.2.1 d_M_next_114 (by decide) (fun _ => ?_) (fun h => absurd (by decide) h)
      refine lv_iload hF.1 hF.2.1 d_M_next_135 (lv_at hl 0 rfl) ?_
      refine lv_if_eq (tgt := 158) hF.1 hF.2.1 d_M_next_137 (by decide) (fun _ => ?_) (fun h => absurd (by decide) h)
      refine lv_iconst (v := ((-1))) hF.1 hF.2.1 d_M_next_158 (by decide) ?_
      exact z_iret hF hr hlocks hZ rfl ⟨h, fun _ _ => rfl, by rw [if_pos ⟨xm, yc⟩]; exact iv_0.symm⟩ d_M_next_159
    · have yc : y < u.1.length := Nat.lt_of_not_le (fun z => yc (nI_le z (by omega)))
      refine lv_iconst (v := (nI (1))) hF.1 hF.2.1 d_M_next_25 (by decide) ?_
      refine lv_goto (tgt := 30) hF.1 hF.2.1 d_M_next_26 (by decide) ?_
      refine lv_istore hF.1 hF.2.1 d_M_next_30 hl (by decide) rfl (fun ls hl => ?_)
      have hl : lv_has ls 9 [(6, .int (nI (1))), (5, .int (nI (0))), (0, .ref (ad (104))), (1, .int (nI (w))), (2, .int (nI (x))), (3, .int (nI (y))), (4, .int (nI (d)))] := hl
      refine lv_iload hF.1 hF.2.1 d_M_next_32 (lv_at hl 1 rfl) ?_
      refine lv_if_eq (tgt := 112) hF.1 hF.2.1 d_M_next_34 (by decide) (fun _ => ?_) (fun h => absurd (by decide) h)
      refine lv_iload hF.1 hF.2.1 d_M_next_112 (lv_at hl 1 rfl) ?_
      refine lv_if_eq (tgt := 135) hF.1 hF.2.1 d_M_next_114 (by decide) (fun _ => ?_) (fun h => absurd (by decide) h)
      refine lv_iload hF.1 hF.2.1 d_M_next_135 (lv_at hl 0 rfl) ?_
      refine lv_if_eq (tgt := 158) hF.1 hF.2.1 d_M_next_137 (by decide) (fun h => absurd h (by decide)) (fun _ => ?_)
      refine lv_aload_n hF.1 hF.2.1 d_M_next_140 rfl (lv_at hl 2 rfl) ?_
      refine lv_iload_n hF.1 hF.2.1 d_M_next_141 rfl (lv_at hl 3 rfl) ?_
      refine lv_iload_n hF.1 hF.2.1 d_M_next_142 rfl (lv_at hl 4 rfl) ?_
      refine lv_iload_n hF.1 hF.2.1 d_M_next_143 rfl (lv_at hl 5 rfl) ?_
      refine lv_iconst (v := (nI (1))) hF.1 hF.2.1 d_M_next_144 (by decide) ?_
      refine lv_iadd hF.1 hF.2.1 d_M_next_145 ?_
      refine z_top (nI_add (y) (1)) ?_
      refine z_calli hZ (z_run cw_M_64 hF hZ (104) (c_M_far l hN h hw (i := x) (j := y + 1) (by omega) (by omega)) (by decide) (by omega) p1 rfl rfl hl.1 rfl (Nat.le_of_ble_eq_true rfl) d_M_next_146) (fun v en1 H locs hq hZ => ?_)
      obtain ⟨hv, ⟨f1, e9⟩, hq2⟩ := hq
      subst hv
      have h1 := h.k109 e9 hq2
      have hfr1 : ∀ r, r ≠ 109 → en1 r = en r := hq2
      have p1 := h1.1
      refine lv_iload hF.1 hF.2.1 d_M_next_149 (lv_at hl 6 rfl) ?_
      refine lv_iconst (v := (nI (1))) hF.1 hF.2.1 d_M_next_151 (by decide) ?_
      refine lv_isub hF.1 hF.2.1 d_M_next_152 ?_
      refine z_top (y := (iv d)) (show nI d - nI 1 = iv d from rfl) ?_
      have d1 := ed_d_i (w := u.1) (j := y) xm
      have d2 := ed_d_i (w := u.1) (j := y + 1) xm
      refine lv_icmp_ne (tgt := 158) hF.1 hF.2.1 d_M_next_153 (by decide) (fun h => absurd ((iv_nI (by omega) (by omega)).mpr (show d = ed_d T u.1 x (y + 1) + 1 by omega)).symm h) (fun _ => ?_)
      refine lv_iconst (v := (nI (3))) hF.1 hF.2.1 d_M_next_156 (by decide) ?_
      exact z_iret hF hr hlocks hZ rfl ⟨h1, hfr1, by rw [if_neg (fun z => by omega), iv_s]; unfold ed_f; rw [if_pos xm]⟩ d_M_next_157
  · have xm : x < T.length := Nat.lt_of_not_le (fun z => xm (nI_le z (by omega)))
    refine lv_iconst (v := (nI (1))) hF.1 hF.2.1 d_M_next_8 (by decide) ?_
    refine lv_goto (tgt := 13) hF.1 hF.2.1 d_M_next_9 (by decide) ?_
    refine lv_istore hF.1 hF.2.1 d_M_next_13 hl (by decide) rfl (fun ls hl => ?_)
    have hl : lv_has ls 9 [(5, .int (nI (1))), (0, .ref (ad (104))), (1, .int (nI (w))), (2, .int (nI (x))), (3, .int (nI (y))), (4, .int (nI (d)))] := hl
    refine lv_iload_n hF.1 hF.2.1 d_M_next_15 rfl (lv_at hl 4 rfl) ?_
    refine lv_aload_n hF.1 hF.2.1 d_M_next_16 rfl (lv_at hl 1 rfl) ?_
    refine gf_M_16 hF hZ (104) (by omega) p1 rfl d_M_next_17 ?_
    refine lv_iload_n hF.1 hF.2.1 d_M_next_20 rfl (lv_at hl 2 rfl) ?_
    refine z_iald hF hZ (107) (by omega) p7 (w) (by omega) (by omega) d_M_next_21 ?_
    refine z_top (y := (nI (u.1.length))) us ?_
    refine lv_icmp_ge (tgt := 29) hF.1 hF.2.1 d_M_next_22 (by decide) (fun yc => ?_) (fun yc => ?_)
    · have yc : y = u.1.length := by have := (nI_leI (by omega) (by omega)).mp yc; omega
      refine lv_iconst (v := (nI (0))) hF.1 hF.2.1 d_M_next_29 (by decide) ?_
      refine lv_istore hF.1 hF.2.1 d_M_next_30 hl (by decide) rfl (fun ls hl => ?_)
      have hl : lv_has ls 9 [(6, .int (nI (0))), (5, .int (nI (1))), (0, .ref (ad (104))), (1, .int (nI (w))), (2, .int (nI (x))), (3, .int (nI (y))), (4, .int (nI (d)))] := hl
      refine lv_iload hF.1 hF.2.1 d_M_next_32 (lv_at hl 1 rfl) ?_
      refine lv_if_eq (tgt := 112) hF.1 hF.2.1 d_M_next_34 (by decide) (fun h => absurd h (by decide)) (fun _ => ?_)
      refine lv_iload hF.1 hF.2.1 d_M_next_37 (lv_at hl 0 rfl) ?_
      refine lv_if_eq (tgt := 112) hF.1 hF.2.1 d_M_next_39 (by decide) (fun _ => ?_) (fun h => absurd (by decide) h)
      refine lv_iload hF.1 hF.2.1 d_M_next_112 (lv_at hl 1 rfl) ?_
      refine lv_if_eq (tgt := 135) hF.1 hF.2.1 d_M_next_114 (by decide) (fun h => absurd h (by decide)) (fun _ => ?_)
      refine lv_aload_n hF.1 hF.2.1 d_M_next_117 rfl (lv_at hl 2 rfl) ?_
      refine lv_iload_n hF.1 hF.2.1 d_M_next_118 rfl (lv_at hl 3 rfl) ?_
      refine lv_iload_n hF.1 hF.2.1 d_M_next_119 rfl (lv_at hl 4 rfl) ?_
      refine lv_iconst (v := (nI (1))) hF.1 hF.2.1 d_M_next_120 (by decide) ?_
      refine lv_iadd hF.1 hF.2.1 d_M_next_121 ?_
      refine z_top (nI_add (x) (1)) ?_
      refine lv_iload_n hF.1 hF.2.1 d_M_next_122 rfl (lv_at hl 5 rfl) ?_
      refine z_calli hZ (z_run cw_M_64 hF hZ (104) (c_M_far l hN h hw (i := x + 1) (j := y) (by omega) (by omega)) (by decide) (by omega) p1 rfl rfl hl.1 rfl (Nat.le_of_ble_eq_true rfl) d_M_next_123) (fun v en1 H locs hq hZ => ?_)
      obtain ⟨hv, ⟨f1, e9⟩, hq2⟩ := hq
      subst hv
      have h1 := h.k109 e9 hq2
      have hfr1 : ∀ r, r ≠ 109 → en1 r = en r := hq2
      have p1 := h1.1
      refine lv_iload hF.1 hF.2.1 d_M_next_126 (lv_at hl 6 rfl) ?_
      refine lv_iconst (v := (nI (1))) hF.1 hF.2.1 d_M_next_128 (by decide) ?_
      refine lv_isub hF.1 hF.2.1 d_M_next_129 ?_
      refine z_top (y := (iv d)) (show nI d - nI 1 = iv d from rfl) ?_
      have d1 := ed_d_j (t := T) (i := x) yc
      have d2 := ed_d_j (t := T) (i := x + 1) yc
      refine lv_icmp_ne (tgt := 135) hF.1 hF.2.1 d_M_next_130 (by decide) (fun h => absurd ((iv_nI (by omega) (by omega)).mpr (show d = ed_d T u.1 (x + 1) y + 1 by omega)).symm h) (fun _ => ?_)
      refine lv_iconst (v := (nI (2))) hF.1 hF.2.1 d_M_next_133 (by decide) ?_
      exact z_iret hF hr hlocks hZ rfl ⟨h1, hfr1, by rw [if_neg (fun z => by omega), iv_s]; unfold ed_f; rw [if_neg (by omega), if_pos yc]⟩ d_M_next_134
    · have yc : y < u.1.length := Nat.lt_of_not_le (fun z => yc (nI_le z (by omega)))
      refine lv_iconst (v := (nI (1))) hF.1 hF.2.1 d_M_next_25 (by decide) ?_
      refine lv_goto (tgt := 30) hF.1 hF.2.1 d_M_next_26 (by decide) ?_
      refine lv_istore hF.1 hF.2.1 d_M_next_30 hl (by decide) rfl (fun ls hl => ?_)
      have hl : lv_has ls 9 [(6, .int (nI (1))), (5, .int (nI (1))), (0, .ref (ad (104))), (1, .int (nI (w))), (2, .int (nI (x))), (3, .int (nI (y))), (4, .int (nI (d)))] := hl
      refine lv_iload hF.1 hF.2.1 d_M_next_32 (lv_at hl 1 rfl) ?_
      have c1 := ed_18 (xs := T) (ys := u.1) (i := x + 1) (j := y + 1) (by omega) (by omega) p2 u8
      have c2 := ed_18 (xs := T) (ys := u.1) (i := x + 1) (j := y) (by omega) (by omega) p2 u8
      have c3 := ed_18 (xs := T) (ys := u.1) (i := x) (j := y + 1) (by omega) (by omega) p2 u8
      have hs := ed_d_s (t := T) (w := u.1) xm yc
      have hne : ¬ (x = T.length ∧ y = u.1.length) := fun z => by omega
      have n1 : ¬ x = T.length := by omega
      have n2 : ¬ y = u.1.length := by omega
      have z1 := p26 x
      have z2 := u26 y
      subst hd
      refine lv_if_eq (tgt := 112) hF.1 hF.2.1 d_M_next_34 (by decide) (fun h => absurd h (by decide)) (fun _ => ?_)
      refine lv_iload hF.1 hF.2.1 d_M_next_37 (lv_at hl 0 rfl) ?_
      refine lv_if_eq (tgt := 112) hF.1 hF.2.1 d_M_next_39 (by decide) (fun h => absurd h (by decide)) (fun _ => ?_)
      refine lv_aload_n hF.1 hF.2.1 d_M_next_42 rfl (lv_at hl 2 rfl) ?_
      refine gf_M_7 hF hZ (104) (by omega) p1 rfl d_M_next_43 ?_
      refine lv_iload_n hF.1 hF.2.1 d_M_next_46 rfl (lv_at hl 4 rfl) ?_
      refine z_iald hF hZ (105) (by omega) p4 (x) (by omega) (by omega) d_M_next_47 ?_
      refine z_top (y := (nI (T.getD x 0))) (p5 x xm) ?_
      refine lv_aload_n hF.1 hF.2.1 d_M_next_48 rfl (lv_at hl 2 rfl) ?_
      refine gf_M_13 hF hZ (104) (by omega) p1 rfl d_M_next_49 ?_
      refine lv_bipush (v := (nI (8))) hF.1 hF.2.1 d_M_next_52 (by decide) ?_
      refine lv_iload_n hF.1 hF.2.1 d_M_next_54 rfl (lv_at hl 3 rfl) ?_
      refine lv_imul hF.1 hF.2.1 d_M_next_55 ?_
      refine z_top (pk_mul (8) (w)) ?_
      refine lv_iload_n hF.1 hF.2.1 d_M_next_56 rfl (lv_at hl 5 rfl) ?_
      refine lv_iadd hF.1 hF.2.1 d_M_next_57 ?_
      refine z_top (nI_add ((8) * (w)) (y)) ?_
      refine z_iald hF hZ (106) (by omega) p6 ((8) * (w) + y) (by omega) (by omega) d_M_next_58 ?_
      refine z_top (y := (nI (u.1.getD y 0))) (ul y yc) ?_
      refine lv_icmp_ne (tgt := 66) hF.1 hF.2.1 d_M_next_59 (by decide) (fun ee => ?_) (fun ee => ?_)
      · have ee : ¬ T.getD x 0 = u.1.getD y 0 := fun z => ee (by rw [z])
        rw [if_neg ee] at hs
        refine lv_iconst (v := (nI (0))) hF.1 hF.2.1 d_M_next_66 (by decide) ?_
        refine lv_istore hF.1 hF.2.1 d_M_next_67 hl (by decide) rfl (fun ls hl => ?_)
        have hl : lv_has ls 9 [(7, .int (nI (0))), (6, .int (nI (1))), (5, .int (nI (1))), (0, .ref (ad (104))), (1, .int (nI (w))), (2, .int (nI (x))), (3, .int (nI (y))), (4, .int (nI (ed_d T u.1 x y)))] := hl
        refine lv_aload_n hF.1 hF.2.1 d_M_next_69 rfl (lv_at hl 3 rfl) ?_
        refine lv_iload_n hF.1 hF.2.1 d_M_next_70 rfl (lv_at hl 4 rfl) ?_
        refine lv_iload_n hF.1 hF.2.1 d_M_next_71 rfl (lv_at hl 5 rfl) ?_
        refine lv_iconst (v := (nI (1))) hF.1 hF.2.1 d_M_next_72 (by decide) ?_
        refine lv_iadd hF.1 hF.2.1 d_M_next_73 ?_
        refine z_top (nI_add (x) (1)) ?_
        refine lv_iload_n hF.1 hF.2.1 d_M_next_74 rfl (lv_at hl 6 rfl) ?_
        refine lv_iconst (v := (nI (1))) hF.1 hF.2.1 d_M_next_75 (by decide) ?_
        refine lv_iadd hF.1 hF.2.1 d_M_next_76 ?_
        refine z_top (nI_add (y) (1)) ?_
        refine z_calli hZ (z_run cw_M_64 hF hZ (104) (c_M_far l hN h hw (i := x + 1) (j := y + 1) (by omega) (by omega)) (by decide) (by omega) p1 rfl rfl hl.1 rfl (Nat.le_of_ble_eq_true rfl) d_M_next_77) (fun v en1 H locs hq hZ => ?_)
        obtain ⟨hv, ⟨f1, e9⟩, hq2⟩ := hq
        subst hv
        have h1 := h.k109 e9 hq2
        have hfr1 : ∀ r, r ≠ 109 → en1 r = en r := hq2
        have p1 := h1.1
        refine lv_istore hF.1 hF.2.1 d_M_next_80 hl (by decide) rfl (fun ls hl => ?_)
        have hl : lv_has ls 9 [(8, .int (nI (ed_d T u.1 (x + 1) (y + 1)))), (7, .int (nI (0))), (6, .int (nI (1))), (5, .int (nI (1))), (0, .ref (ad (104))), (1, .int (nI (w))), (2, .int (nI (x))), (3, .int (nI (y))), (4, .int (nI (ed_d T u.1 x y)))] := hl
        refine lv_iload hF.1 hF.2.1 d_M_next_82 (lv_at hl 1 rfl) ?_
        refine lv_if_eq (tgt := 96) hF.1 hF.2.1 d_M_next_84 (by decide) (fun _ => ?_) (fun h => absurd (by decide) h)
        refine lv_iload hF.1 hF.2.1 d_M_next_96 (lv_at hl 1 rfl) ?_
        refine lv_if_ne (tgt := 112) hF.1 hF.2.1 d_M_next_98 (by decide) (fun h => absurd (by decide) h) (fun _ => ?_)
        refine lv_iload hF.1 hF.2.1 d_M_next_101 (lv_at hl 0 rfl) ?_
        refine lv_iload hF.1 hF.2.1 d_M_next_103 (lv_at hl 8 rfl) ?_
        refine lv_iconst (v := (nI (1))) hF.1 hF.2.1 d_M_next_105 (by decide) ?_
        refine lv_isub hF.1 hF.2.1 d_M_next_106 ?_
        refine z_top (y := (iv (ed_d T u.1 x y))) (show nI (ed_d T u.1 x y) - nI 1 = iv (ed_d T u.1 x y) from rfl) ?_
        refine lv_icmp_ne (tgt := 112) hF.1 hF.2.1 d_M_next_107 (by decide) (fun s1 => ?_) (fun s1 => ?_)
        · have s1 : ¬ ed_d T u.1 x y = 1 + ed_d T u.1 (x + 1) (y + 1) := fun z => s1 ((iv_nI (by omega) (by omega)).mpr (by omega)).symm
          refine lv_iload hF.1 hF.2.1 d_M_next_112 (lv_at hl 3 rfl) ?_
          refine lv_if_eq (tgt := 135) hF.1 hF.2.1 d_M_next_114 (by decide) (fun h => absurd h (by decide)) (fun _ => ?_)
          refine lv_aload_n hF.1 hF.2.1 d_M_next_117 rfl (lv_at hl 4 rfl) ?_
          refine lv_iload_n hF.1 hF.2.1 d_M_next_118 rfl (lv_at hl 5 rfl) ?_
          refine lv_iload_n hF.1 hF.2.1 d_M_next_119 rfl (lv_at hl 6 rfl) ?_
          refine lv_iconst (v := (nI (1))) hF.1 hF.2.1 d_M_next_120 (by decide) ?_
          refine lv_iadd hF.1 hF.2.1 d_M_next_121 ?_
          refine z_top (nI_add (x) (1)) ?_
          refine lv_iload_n hF.1 hF.2.1 d_M_next_122 rfl (lv_at hl 7 rfl) ?_
          refine z_calli hZ (z_run cw_M_64 hF hZ (104) (c_M_far l hN h1 hw (i := x + 1) (j := y) (by omega) (by omega)) (by decide) (by omega) p1 rfl rfl hl.1 rfl (Nat.le_of_ble_eq_true rfl) d_M_next_123) (fun v en2 H locs hq hZ => ?_)
          obtain ⟨hv, ⟨f2, e9⟩, hq2⟩ := hq
          subst hv
          have h2 := h1.k109 e9 hq2
          have hfr2 : ∀ r, r ≠ 109 → en2 r = en r := (fun r hr => (hq2 r hr).trans (hfr1 r hr))
          have p1 := h2.1
          refine lv_iload hF.1 hF.2.1 d_M_next_126 (lv_at hl 8 rfl) ?_
          refine lv_iconst (v := (nI (1))) hF.1 hF.2.1 d_M_next_128 (by decide) ?_
          refine lv_isub hF.1 hF.2.1 d_M_next_129 ?_
          refine z_top (y := (iv (ed_d T u.1 x y))) (show nI (ed_d T u.1 x y) - nI 1 = iv (ed_d T u.1 x y) from rfl) ?_
          refine lv_icmp_ne (tgt := 135) hF.1 hF.2.1 d_M_next_130 (by decide) (fun s2 => ?_) (fun s2 => ?_)
          · have s2 : ¬ ed_d T u.1 x y = 1 + ed_d T u.1 (x + 1) y := fun z => s2 ((iv_nI (by omega) (by omega)).mpr (by omega)).symm
            refine lv_iload hF.1 hF.2.1 d_M_next_135 (lv_at hl 2 rfl) ?_
            refine lv_if_eq (tgt := 158) hF.1 hF.2.1 d_M_next_137 (by decide) (fun h => absurd h (by decide)) (fun _ => ?_)
            refine lv_aload_n hF.1 hF.2.1 d_M_next_140 rfl (lv_at hl 4 rfl) ?_
            refine lv_iload_n hF.1 hF.2.1 d_M_next_141 rfl (lv_at hl 5 rfl) ?_
            refine lv_iload_n hF.1 hF.2.1 d_M_next_142 rfl (lv_at hl 6 rfl) ?_
            refine lv_iload_n hF.1 hF.2.1 d_M_next_143 rfl (lv_at hl 7 rfl) ?_
            refine lv_iconst (v := (nI (1))) hF.1 hF.2.1 d_M_next_144 (by decide) ?_
            refine lv_iadd hF.1 hF.2.1 d_M_next_145 ?_
            refine z_top (nI_add (y) (1)) ?_
            refine z_calli hZ (z_run cw_M_64 hF hZ (104) (c_M_far l hN h2 hw (i := x) (j := y + 1) (by omega) (by omega)) (by decide) (by omega) p1 rfl rfl hl.1 rfl (Nat.le_of_ble_eq_true rfl) d_M_next_146) (fun v en3 H locs hq hZ => ?_)
            obtain ⟨hv, ⟨f3, e9⟩, hq2⟩ := hq
            subst hv
            have h3 := h2.k109 e9 hq2
            have hfr3 : ∀ r, r ≠ 109 → en3 r = en r := (fun r hr => (hq2 r hr).trans (hfr2 r hr))
            have p1 := h3.1
            refine lv_iload hF.1 hF.2.1 d_M_next_149 (lv_at hl 8 rfl) ?_
            refine lv_iconst (v := (nI (1))) hF.1 hF.2.1 d_M_next_151 (by decide) ?_
            refine lv_isub hF.1 hF.2.1 d_M_next_152 ?_
            refine z_top (y := (iv (ed_d T u.1 x y))) (show nI (ed_d T u.1 x y) - nI 1 = iv (ed_d T u.1 x y) from rfl) ?_
            refine lv_icmp_ne (tgt := 158) hF.1 hF.2.1 d_M_next_153 (by decide) (fun h => absurd ((iv_nI (by omega) (by omega)).mpr (show ed_d T u.1 x y = ed_d T u.1 x (y + 1) + 1 by omega)).symm h) (fun _ => ?_)
            refine lv_iconst (v := (nI (3))) hF.1 hF.2.1 d_M_next_156 (by decide) ?_
            exact z_iret hF hr hlocks hZ rfl ⟨h3, hfr3, by rw [if_neg hne, iv_s]; unfold ed_f; rw [if_neg n1, if_neg n2, if_neg (fun z => ee z.1), if_neg (fun z => s1 z.2), if_neg s2]⟩ d_M_next_157
          · have s2 : ed_d T u.1 x y = 1 + ed_d T u.1 (x + 1) y := by have := (iv_nI (by omega) (by omega)).mp s2.symm; omega
            refine lv_iconst (v := (nI (2))) hF.1 hF.2.1 d_M_next_133 (by decide) ?_
            exact z_iret hF hr hlocks hZ rfl ⟨h2, hfr2, by rw [if_neg hne, iv_s]; unfold ed_f; rw [if_neg n1, if_neg n2, if_neg (fun z => ee z.1), if_neg (fun z => s1 z.2), if_pos s2]⟩ d_M_next_134
        · have s1 : ed_d T u.1 x y = 1 + ed_d T u.1 (x + 1) (y + 1) := by have := (iv_nI (by omega) (by omega)).mp s1.symm; omega
          refine lv_iconst (v := (nI (1))) hF.1 hF.2.1 d_M_next_110 (by decide) ?_
          exact z_iret hF hr hlocks hZ rfl ⟨h1, hfr1, by rw [if_neg hne, iv_s]; unfold ed_f; rw [if_neg n1, if_neg n2, if_neg (fun z => ee z.1), if_pos ⟨ee, s1⟩]⟩ d_M_next_111
      · have ee := (nI_eq (by omega) (by omega)).mp ee
        rw [if_pos ee] at hs
        refine lv_iconst (v := (nI (1))) hF.1 hF.2.1 d_M_next_62 (by decide) ?_
        refine lv_goto (tgt := 67) hF.1 hF.2.1 d_M_next_63 (by decide) ?_
        refine lv_istore hF.1 hF.2.1 d_M_next_67 hl (by decide) rfl (fun ls hl => ?_)
        have hl : lv_has ls 9 [(7, .int (nI (1))), (6, .int (nI (1))), (5, .int (nI (1))), (0, .ref (ad (104))), (1, .int (nI (w))), (2, .int (nI (x))), (3, .int (nI (y))), (4, .int (nI (ed_d T u.1 x y)))] := hl
        refine lv_aload_n hF.1 hF.2.1 d_M_next_69 rfl (lv_at hl 3 rfl) ?_
        refine lv_iload_n hF.1 hF.2.1 d_M_next_70 rfl (lv_at hl 4 rfl) ?_
        refine lv_iload_n hF.1 hF.2.1 d_M_next_71 rfl (lv_at hl 5 rfl) ?_
        refine lv_iconst (v := (nI (1))) hF.1 hF.2.1 d_M_next_72 (by decide) ?_
        refine lv_iadd hF.1 hF.2.1 d_M_next_73 ?_
        refine z_top (nI_add (x) (1)) ?_
        refine lv_iload_n hF.1 hF.2.1 d_M_next_74 rfl (lv_at hl 6 rfl) ?_
        refine lv_iconst (v := (nI (1))) hF.1 hF.2.1 d_M_next_75 (by decide) ?_
        refine lv_iadd hF.1 hF.2.1 d_M_next_76 ?_
        refine z_top (nI_add (y) (1)) ?_
        refine z_calli hZ (z_run cw_M_64 hF hZ (104) (c_M_far l hN h hw (i := x + 1) (j := y + 1) (by omega) (by omega)) (by decide) (by omega) p1 rfl rfl hl.1 rfl (Nat.le_of_ble_eq_true rfl) d_M_next_77) (fun v en1 H locs hq hZ => ?_)
        obtain ⟨hv, ⟨f1, e9⟩, hq2⟩ := hq
        subst hv
        have h1 := h.k109 e9 hq2
        have hfr1 : ∀ r, r ≠ 109 → en1 r = en r := hq2
        have p1 := h1.1
        refine lv_istore hF.1 hF.2.1 d_M_next_80 hl (by decide) rfl (fun ls hl => ?_)
        have hl : lv_has ls 9 [(8, .int (nI (ed_d T u.1 (x + 1) (y + 1)))), (7, .int (nI (1))), (6, .int (nI (1))), (5, .int (nI (1))), (0, .ref (ad (104))), (1, .int (nI (w))), (2, .int (nI (x))), (3, .int (nI (y))), (4, .int (nI (ed_d T u.1 x y)))] := hl
        refine lv_iload hF.1 hF.2.1 d_M_next_82 (lv_at hl 1 rfl) ?_
        refine lv_if_eq (tgt := 96) hF.1 hF.2.1 d_M_next_84 (by decide) (fun h => absurd h (by decide)) (fun _ => ?_)
        refine lv_iload hF.1 hF.2.1 d_M_next_87 (lv_at hl 0 rfl) ?_
        refine lv_iload hF.1 hF.2.1 d_M_next_89 (lv_at hl 8 rfl) ?_
        refine lv_icmp_ne (tgt := 96) hF.1 hF.2.1 d_M_next_91 (by decide) (fun s1 => ?_) (fun s1 => ?_)
        · have s1 : ¬ ed_d T u.1 x y = ed_d T u.1 (x + 1) (y + 1) := fun z => s1 (by rw [z])
          refine lv_iload hF.1 hF.2.1 d_M_next_96 (lv_at hl 1 rfl) ?_
          refine lv_if_ne (tgt := 112) hF.1 hF.2.1 d_M_next_98 (by decide) (fun _ => ?_) (fun h => absurd h (by decide))
          refine lv_iload hF.1 hF.2.1 d_M_next_112 (lv_at hl 3 rfl) ?_
          refine lv_if_eq (tgt := 135) hF.1 hF.2.1 d_M_next_114 (by decide) (fun h => absurd h (by decide)) (fun _ => ?_)
          refine lv_aload_n hF.1 hF.2.1 d_M_next_117 rfl (lv_at hl 4 rfl) ?_
          refine lv_iload_n hF.1 hF.2.1 d_M_next_118 rfl (lv_at hl 5 rfl) ?_
          refine lv_iload_n hF.1 hF.2.1 d_M_next_119 rfl (lv_at hl 6 rfl) ?_
          refine lv_iconst (v := (nI (1))) hF.1 hF.2.1 d_M_next_120 (by decide) ?_
          refine lv_iadd hF.1 hF.2.1 d_M_next_121 ?_
          refine z_top (nI_add (x) (1)) ?_
          refine lv_iload_n hF.1 hF.2.1 d_M_next_122 rfl (lv_at hl 7 rfl) ?_
          refine z_calli hZ (z_run cw_M_64 hF hZ (104) (c_M_far l hN h1 hw (i := x + 1) (j := y) (by omega) (by omega)) (by decide) (by omega) p1 rfl rfl hl.1 rfl (Nat.le_of_ble_eq_true rfl) d_M_next_123) (fun v en2 H locs hq hZ => ?_)
          obtain ⟨hv, ⟨f2, e9⟩, hq2⟩ := hq
          subst hv
          have h2 := h1.k109 e9 hq2
          have hfr2 : ∀ r, r ≠ 109 → en2 r = en r := (fun r hr => (hq2 r hr).trans (hfr1 r hr))
          have p1 := h2.1
          refine lv_iload hF.1 hF.2.1 d_M_next_126 (lv_at hl 8 rfl) ?_
          refine lv_iconst (v := (nI (1))) hF.1 hF.2.1 d_M_next_128 (by decide) ?_
          refine lv_isub hF.1 hF.2.1 d_M_next_129 ?_
          refine z_top (y := (iv (ed_d T u.1 x y))) (show nI (ed_d T u.1 x y) - nI 1 = iv (ed_d T u.1 x y) from rfl) ?_
          refine lv_icmp_ne (tgt := 135) hF.1 hF.2.1 d_M_next_130 (by decide) (fun s2 => ?_) (fun s2 => ?_)
          · have s2 : ¬ ed_d T u.1 x y = 1 + ed_d T u.1 (x + 1) y := fun z => s2 ((iv_nI (by omega) (by omega)).mpr (by omega)).symm
            refine lv_iload hF.1 hF.2.1 d_M_next_135 (lv_at hl 2 rfl) ?_
            refine lv_if_eq (tgt := 158) hF.1 hF.2.1 d_M_next_137 (by decide) (fun h => absurd h (by decide)) (fun _ => ?_)
            refine lv_aload_n hF.1 hF.2.1 d_M_next_140 rfl (lv_at hl 4 rfl) ?_
            refine lv_iload_n hF.1 hF.2.1 d_M_next_141 rfl (lv_at hl 5 rfl) ?_
            refine lv_iload_n hF.1 hF.2.1 d_M_next_142 rfl (lv_at hl 6 rfl) ?_
            refine lv_iload_n hF.1 hF.2.1 d_M_next_143 rfl (lv_at hl 7 rfl) ?_
            refine lv_iconst (v := (nI (1))) hF.1 hF.2.1 d_M_next_144 (by decide) ?_
            refine lv_iadd hF.1 hF.2.1 d_M_next_145 ?_
            refine z_top (nI_add (y) (1)) ?_
            refine z_calli hZ (z_run cw_M_64 hF hZ (104) (c_M_far l hN h2 hw (i := x) (j := y + 1) (by omega) (by omega)) (by decide) (by omega) p1 rfl rfl hl.1 rfl (Nat.le_of_ble_eq_true rfl) d_M_next_146) (fun v en3 H locs hq hZ => ?_)
            obtain ⟨hv, ⟨f3, e9⟩, hq2⟩ := hq
            subst hv
            have h3 := h2.k109 e9 hq2
            have hfr3 : ∀ r, r ≠ 109 → en3 r = en r := (fun r hr => (hq2 r hr).trans (hfr2 r hr))
            have p1 := h3.1
            refine lv_iload hF.1 hF.2.1 d_M_next_149 (lv_at hl 8 rfl) ?_
            refine lv_iconst (v := (nI (1))) hF.1 hF.2.1 d_M_next_151 (by decide) ?_
            refine lv_isub hF.1 hF.2.1 d_M_next_152 ?_
            refine z_top (y := (iv (ed_d T u.1 x y))) (show nI (ed_d T u.1 x y) - nI 1 = iv (ed_d T u.1 x y) from rfl) ?_
            refine lv_icmp_ne (tgt := 158) hF.1 hF.2.1 d_M_next_153 (by decide) (fun h => absurd ((iv_nI (by omega) (by omega)).mpr (show ed_d T u.1 x y = ed_d T u.1 x (y + 1) + 1 by omega)).symm h) (fun _ => ?_)
            refine lv_iconst (v := (nI (3))) hF.1 hF.2.1 d_M_next_156 (by decide) ?_
            exact z_iret hF hr hlocks hZ rfl ⟨h3, hfr3, by rw [if_neg hne, iv_s]; unfold ed_f; rw [if_neg n1, if_neg n2, if_neg (fun z => s1 z.2), if_neg (fun z => z.1 ee), if_neg s2]⟩ d_M_next_157
          · have s2 : ed_d T u.1 x y = 1 + ed_d T u.1 (x + 1) y := by have := (iv_nI (by omega) (by omega)).mp s2.symm; omega
            refine lv_iconst (v := (nI (2))) hF.1 hF.2.1 d_M_next_133 (by decide) ?_
            exact z_iret hF hr hlocks hZ rfl ⟨h2, hfr2, by rw [if_neg hne, iv_s]; unfold ed_f; rw [if_neg n1, if_neg n2, if_neg (fun z => s1 z.2), if_neg (fun z => z.1 ee), if_pos s2]⟩ d_M_next_134
        · have s1 : ed_d T u.1 x y = ed_d T u.1 (x + 1) (y + 1) := ((nI_eq (by omega) (by omega)).mp s1).symm
          refine lv_iconst (v := (nI (0))) hF.1 hF.2.1 d_M_next_94 (by decide) ?_
          exact z_iret hF hr hlocks hZ rfl ⟨h1, hfr1, by rw [if_neg hne, iv_s]; unfold ed_f; rw [if_neg n1, if_neg n2, if_pos ⟨ee, s1⟩]⟩ d_M_next_95
theorem eav_neg {xs ys : List Nat} {p : Int32} (h : p < 0) : eav xs ys p = 0 := if_pos h
theorem eav_big {xs ys : List Nat} {p : Int32} (hx : xs.length ≤ 10) (hy : ys.length ≤ 8) (h : nI 19 ≤ p) : eav xs ys p = 0 := by
  refine eav_0 (k := 19) (by omega) (fun j hj z => ?_) (ed_st_end xs ys (by omega))
  rw [z] at h
  have := (nI_leI (by omega) (by omega)).mp h
  omega
set_option maxHeartbeats 4000000 in
set_option maxRecDepth 100000 in
theorem c_M_edit (l : Launch) {G : zG} {ad : Nat → Nat} {en : Nat → va_E} {N : Nat} {T : List Nat} {mw : List wd_W} (hN : 111 ≤ N) (h : pM G ad en T mw) {C : List wd_W} (hpm : C.Perm mw) (hso : wd_so C) {k p0 : Int32} : zMi l y_M_edit b_M_edit 9 .int 5 G ad en N [.ref (ad (104)), .int (k), .int (p0)] (fun v en1 => pM G ad en1 T mw ∧ (∀ r, r ≠ 109 → en1 r = en r) ∧ ((∃ j u, C[j]? = some u ∧ k = nI j ∧ v = iv (eav T u.1 p0)) ∨ ((k < 0 ∨ nI C.length ≤ k) ∧ v = -1))) := by
  have hh := h
  obtain ⟨p1, p2, p26, p3, ⟨ft, p4, p5⟩, ⟨fl, fs, fc, p6, p7, p8, p9⟩, ⟨fr, p10⟩, fj, p11⟩ := hh
  refine z_met (by decide) (Nat.le_of_ble_eq_true rfl) ?_
  intro p e s m below meth c ls hF hr hlocks hnam hZ hl
  have hF : CallFix p m c b_M_edit 9 s ([.ref (ad (104)), .int (k), .int (p0)] : List Value).toArray zz R_M := hF
  have hl : lv_has ls 9 [(0, .ref (ad (104))), (1, .int (k)), (2, .int (p0))] := hl
  refine lv_aload_n hF.1 hF.2.1 d_M_edit_0 rfl (lv_at hl 0 rfl) ?_
  refine lv_iload_n hF.1 hF.2.1 d_M_edit_1 rfl (lv_at hl 1 rfl) ?_
  refine z_calli hZ (z_run cw_M_57 hF hZ (104) (c_M_place l hN h hpm hso) (by decide) (by omega) p1 rfl rfl hl.1 rfl (Nat.le_of_ble_eq_true rfl) d_M_edit_2) (fun v enq H locs hp hZ => ?_)
  obtain ⟨he, hd⟩ := hp
  have hZ := hZ.to he
  rcases hd with ⟨w, j, u, hw, hj, hk, hv⟩ | ⟨hv, hno⟩
  · subst hv
    have hwl := wd_lt_of hw
    obtain ⟨u8, u26, ut, us, uc, ul⟩ := p9 w u hw
    refine lv_istore_n hF.1 hF.2.1 d_M_edit_5 rfl hl (by decide) rfl (fun ls hl => ?_)
    have hl : lv_has ls 9 [(3, .int (nI (w))), (0, .ref (ad (104))), (1, .int (k)), (2, .int (p0))] := hl
    refine lv_iload_n hF.1 hF.2.1 d_M_edit_6 rfl (lv_at hl 0 rfl) ?_
    refine lv_if_lt (tgt := 20) hF.1 hF.2.1 d_M_edit_7 (by decide) (fun h => absurd h (nI_pos (by omega))) (fun _ => ?_)
    rcases pk_ix p0 (n := 19) (by omega) with h3 | h3 | ⟨q, hq, hpq⟩
    · refine lv_iload_n hF.1 hF.2.1 d_M_edit_10 rfl (lv_at hl 3 rfl) ?_
      refine lv_if_lt (tgt := 20) hF.1 hF.2.1 d_M_edit_11 (by decide) (fun _ => ?_) (fun h => absurd h3 h)
      refine lv_iconst (v := ((-1))) hF.1 hF.2.1 d_M_edit_20 (by decide) ?_
      exact z_iret hF hr hlocks hZ rfl ⟨h, fun _ _ => rfl, Or.inl ⟨j, u, hj, hk, by rw [eav_neg h3]; exact iv_0.symm⟩⟩ d_M_edit_21
    · have h4 : ¬ p0 < 0 := fun z => by
        rw [Int32.lt_iff_toInt_lt, Int32.toInt_zero] at z
        rw [Int32.le_iff_toInt_le, nI_toInt (by omega)] at h3
        omega
      refine lv_iload_n hF.1 hF.2.1 d_M_edit_10 rfl (lv_at hl 3 rfl) ?_
      refine lv_if_lt (tgt := 20) hF.1 hF.2.1 d_M_edit_11 (by decide) (fun h => absurd h h4) (fun _ => ?_)
      refine lv_iload_n hF.1 hF.2.1 d_M_edit_14 rfl (lv_at hl 3 rfl) ?_
      refine lv_bipush (v := (nI (18))) hF.1 hF.2.1 d_M_edit_15 (by decide) ?_
      refine lv_icmp_le (tgt := 22) hF.1 hF.2.1 d_M_edit_17 (by decide) (fun h => absurd h (fun z => by
            rw [Int32.le_iff_toInt_le, nI_toInt (by omega)] at z h3; omega)) (fun _ => ?_)
      refine lv_iconst (v := ((-1))) hF.1 hF.2.1 d_M_edit_20 (by decide) ?_
      exact z_iret hF hr hlocks hZ rfl ⟨h, fun _ _ => rfl, Or.inl ⟨j, u, hj, hk, by rw [eav_big p2 u8 h3]; exact iv_0.symm⟩⟩ d_M_edit_21
    · have loop : ∀ (r n : Nat) (en1 : Nat → va_E) (H : Heap) (locs : List Loc) (ls : Array Slot), (n + r = q) → (pM G ad en1 T mw) → (∀ r, r ≠ 109 → en1 r = en r) → lv_has ls 9 [(7, .int (nI (n))), (6, .int (nI (ed_d T u.1 (ed_st T u.1 n).1 (ed_st T u.1 n).2))), (5, .int (nI ((ed_st T u.1 n).2))), (4, .int (nI ((ed_st T u.1 n).1))), (3, .int (nI (w))), (0, .ref (ad (104))), (1, .int (k)), (2, .int (p0))] → zH G ad en1 N s H locs → W p l e (zR 5) s m ([.ref (ad (104)), .int (k), .int (p0)] : List Value).toArray below meth c H locs 0 0 (MQ below (zQi G ad N (fun v en1 => pM G ad en1 T mw ∧ (∀ r, r ≠ 109 → en1 r = en r) ∧ ((∃ j u, C[j]? = some u ∧ k = nI j ∧ v = iv (eav T u.1 p0)) ∨ ((k < 0 ∨ nI C.length ≤ k) ∧ v = -1)))) ([.ref (ad (104)), .int (k), .int (p0)] : List Value).toArray s 0 0 (zA G)) (F0 m 40 ls []) := by
        intro r
        induction r with
        | zero =>
          intro n en1 H locs ls hin h1 hfr hl hZ
          obtain ⟨s1, s2, -⟩ := ed_st_in T u.1 n
          have p1 := h1.1
          have hle : ¬ p0 < nI n := by rw [hpq]; exact nI_nlt (by omega) (by omega)
          refine lv_iload hF.1 hF.2.1 d_M_edit_40 (lv_at hl 0 rfl) ?_
          refine lv_iload_n hF.1 hF.2.1 d_M_edit_42 rfl (lv_at hl 7 rfl) ?_
          refine lv_icmp_gt (tgt := 105) hF.1 hF.2.1 d_M_edit_43 (by decide) (fun h => absurd h hle) (fun _ => ?_)
          refine lv_aload_n hF.1 hF.2.1 d_M_edit_46 rfl (lv_at hl 5 rfl) ?_
          refine lv_iload_n hF.1 hF.2.1 d_M_edit_47 rfl (lv_at hl 4 rfl) ?_
          refine lv_iload hF.1 hF.2.1 d_M_edit_48 (lv_at hl 3 rfl) ?_
          refine lv_iload hF.1 hF.2.1 d_M_edit_50 (lv_at hl 2 rfl) ?_
          refine lv_iload hF.1 hF.2.1 d_M_edit_52 (lv_at hl 1 rfl) ?_
          refine z_calli hZ (z_run cw_M_72 hF hZ (104) (c_M_next l hN h1 hw s1 s2 rfl) (by decide) (by omega) p1 rfl rfl hl.1 rfl (Nat.le_of_ble_eq_true rfl) d_M_edit_54) (fun v en2 H locs hq hZ => ?_)
          obtain ⟨h2, hq2, hv⟩ := hq
          have hfr2 : ∀ r, r ≠ 109 → en2 r = en r := fun r hr => (hq2 r hr).trans (hfr r hr)
          by_cases hend : (ed_st T u.1 n).1 = T.length ∧ (ed_st T u.1 n).2 = u.1.length
          · rw [if_pos hend, iv_0] at hv
            subst hv
            refine lv_istore hF.1 hF.2.1 d_M_edit_57 hl (by decide) rfl (fun ls hl => ?_)
            have hl : lv_has ls 9 [(8, .int ((-1))), (7, .int (nI (n))), (6, .int (nI (ed_d T u.1 (ed_st T u.1 n).1 (ed_st T u.1 n).2))), (5, .int (nI ((ed_st T u.1 n).2))), (4, .int (nI ((ed_st T u.1 n).1))), (3, .int (nI (w))), (0, .ref (ad (104))), (1, .int (k)), (2, .int (p0))] := hl
            refine lv_iload hF.1 hF.2.1 d_M_edit_59 (lv_at hl 0 rfl) ?_
            refine lv_if_lt (tgt := 70) hF.1 hF.2.1 d_M_edit_61 (by decide) (fun _ => ?_) (fun h => absurd (by decide) h)
            refine lv_iload hF.1 hF.2.1 d_M_edit_70 (lv_at hl 0 rfl) ?_
            exact z_iret hF hr hlocks hZ rfl ⟨h2, hfr2, Or.inl ⟨j, u, hj, hk, by rw [hpq, eav_0 (k := n) (by omega) (fun y hy z => by have := (nI_eq (by omega) (by omega)).mp z; omega) (Prod.ext hend.1 hend.2)]; exact iv_0.symm⟩⟩ d_M_edit_72
          · rw [if_neg hend, iv_s] at hv
            subst hv
            have hne : ¬ ed_st T u.1 n = (T.length, u.1.length) := fun z => hend (by rw [z]; exact ⟨rfl, rfl⟩)
            have hfl := ed_f_le T u.1 (ed_st T u.1 n).1 (ed_st T u.1 n).2
            obtain ⟨k0, k1, k2, k3⟩ := ed_f_ok s1 s2 hend
            refine lv_istore hF.1 hF.2.1 d_M_edit_57 hl (by decide) rfl (fun ls hl => ?_)
            have hl : lv_has ls 9 [(8, .int (nI (ed_f T u.1 (ed_st T u.1 n).1 (ed_st T u.1 n).2))), (7, .int (nI (n))), (6, .int (nI (ed_d T u.1 (ed_st T u.1 n).1 (ed_st T u.1 n).2))), (5, .int (nI ((ed_st T u.1 n).2))), (4, .int (nI ((ed_st T u.1 n).1))), (3, .int (nI (w))), (0, .ref (ad (104))), (1, .int (k)), (2, .int (p0))] := hl
            refine lv_iload hF.1 hF.2.1 d_M_edit_59 (lv_at hl 0 rfl) ?_
            refine lv_if_lt (tgt := 70) hF.1 hF.2.1 d_M_edit_61 (by decide) (fun h => absurd h (nI_pos (by omega))) (fun _ => ?_)
            refine lv_iload hF.1 hF.2.1 d_M_edit_64 (lv_at hl 1 rfl) ?_
            refine lv_iload_n hF.1 hF.2.1 d_M_edit_66 rfl (lv_at hl 8 rfl) ?_
            refine lv_icmp_ne (tgt := 73) hF.1 hF.2.1 d_M_edit_67 (by decide) (fun h => absurd (show nI n = p0 by rw [hpq, show n = q by omega]) h) (fun _ => ?_)
            refine lv_iload hF.1 hF.2.1 d_M_edit_70 (lv_at hl 0 rfl) ?_
            exact z_iret hF hr hlocks hZ rfl ⟨h2, hfr2, Or.inl ⟨j, u, hj, hk, by rw [hpq, show q = n by omega, eav_k (by omega) hne, iv_s]⟩⟩ d_M_edit_72
        | succ r ih =>
          intro n en1 H locs ls hin h1 hfr hl hZ
          obtain ⟨s1, s2, -⟩ := ed_st_in T u.1 n
          have p1 := h1.1
          have hle : ¬ p0 < nI n := by rw [hpq]; exact nI_nlt (by omega) (by omega)
          refine lv_iload hF.1 hF.2.1 d_M_edit_40 (lv_at hl 0 rfl) ?_
          refine lv_iload_n hF.1 hF.2.1 d_M_edit_42 rfl (lv_at hl 7 rfl) ?_
          refine lv_icmp_gt (tgt := 105) hF.1 hF.2.1 d_M_edit_43 (by decide) (fun h => absurd h hle) (fun _ => ?_)
          refine lv_aload_n hF.1 hF.2.1 d_M_edit_46 rfl (lv_at hl 5 rfl) ?_
          refine lv_iload_n hF.1 hF.2.1 d_M_edit_47 rfl (lv_at hl 4 rfl) ?_
          refine lv_iload hF.1 hF.2.1 d_M_edit_48 (lv_at hl 3 rfl) ?_
          refine lv_iload hF.1 hF.2.1 d_M_edit_50 (lv_at hl 2 rfl) ?_
          refine lv_iload hF.1 hF.2.1 d_M_edit_52 (lv_at hl 1 rfl) ?_
          refine z_calli hZ (z_run cw_M_72 hF hZ (104) (c_M_next l hN h1 hw s1 s2 rfl) (by decide) (by omega) p1 rfl rfl hl.1 rfl (Nat.le_of_ble_eq_true rfl) d_M_edit_54) (fun v en2 H locs hq hZ => ?_)
          obtain ⟨h2, hq2, hv⟩ := hq
          have hfr2 : ∀ r, r ≠ 109 → en2 r = en r := fun r hr => (hq2 r hr).trans (hfr r hr)
          by_cases hend : (ed_st T u.1 n).1 = T.length ∧ (ed_st T u.1 n).2 = u.1.length
          · rw [if_pos hend, iv_0] at hv
            subst hv
            refine lv_istore hF.1 hF.2.1 d_M_edit_57 hl (by decide) rfl (fun ls hl => ?_)
            have hl : lv_has ls 9 [(8, .int ((-1))), (7, .int (nI (n))), (6, .int (nI (ed_d T u.1 (ed_st T u.1 n).1 (ed_st T u.1 n).2))), (5, .int (nI ((ed_st T u.1 n).2))), (4, .int (nI ((ed_st T u.1 n).1))), (3, .int (nI (w))), (0, .ref (ad (104))), (1, .int (k)), (2, .int (p0))] := hl
            refine lv_iload hF.1 hF.2.1 d_M_edit_59 (lv_at hl 0 rfl) ?_
            refine lv_if_lt (tgt := 70) hF.1 hF.2.1 d_M_edit_61 (by decide) (fun _ => ?_) (fun h => absurd (by decide) h)
            refine lv_iload hF.1 hF.2.1 d_M_edit_70 (lv_at hl 0 rfl) ?_
            exact z_iret hF hr hlocks hZ rfl ⟨h2, hfr2, Or.inl ⟨j, u, hj, hk, by rw [hpq, eav_0 (k := n) (by omega) (fun y hy z => by have := (nI_eq (by omega) (by omega)).mp z; omega) (Prod.ext hend.1 hend.2)]; exact iv_0.symm⟩⟩ d_M_edit_72
          · rw [if_neg hend, iv_s] at hv
            subst hv
            have hne : ¬ ed_st T u.1 n = (T.length, u.1.length) := fun z => hend (by rw [z]; exact ⟨rfl, rfl⟩)
            have hfl := ed_f_le T u.1 (ed_st T u.1 n).1 (ed_st T u.1 n).2
            obtain ⟨k0, k1, k2, k3⟩ := ed_f_ok s1 s2 hend
            refine lv_istore hF.1 hF.2.1 d_M_edit_57 hl (by decide) rfl (fun ls hl => ?_)
            have hl : lv_has ls 9 [(8, .int (nI (ed_f T u.1 (ed_st T u.1 n).1 (ed_st T u.1 n).2))), (7, .int (nI (n))), (6, .int (nI (ed_d T u.1 (ed_st T u.1 n).1 (ed_st T u.1 n).2))), (5, .int (nI ((ed_st T u.1 n).2))), (4, .int (nI ((ed_st T u.1 n).1))), (3, .int (nI (w))), (0, .ref (ad (104))), (1, .int (k)), (2, .int (p0))] := hl
            refine lv_iload hF.1 hF.2.1 d_M_edit_59 (lv_at hl 0 rfl) ?_
            refine lv_if_lt (tgt := 70) hF.1 hF.2.1 d_M_edit_61 (by decide) (fun h => absurd h (nI_pos (by omega))) (fun _ => ?_)
            refine lv_iload hF.1 hF.2.1 d_M_edit_64 (lv_at hl 1 rfl) ?_
            refine lv_iload_n hF.1 hF.2.1 d_M_edit_66 rfl (lv_at hl 8 rfl) ?_
            refine lv_icmp_ne (tgt := 73) hF.1 hF.2.1 d_M_edit_67 (by decide) (fun _ => ?_) (fun h => absurd h (fun z => by rw [hpq] at z; have := (nI_eq (by omega) (by omega)).mp z; omega))
            have hst : ed_st T u.1 (n + 1) = ed_mv (ed_f T u.1 (ed_st T u.1 n).1 (ed_st T u.1 n).2) (ed_st T u.1 n) := by rw [ed_st, if_neg hne]
            have hcases : ed_f T u.1 (ed_st T u.1 n).1 (ed_st T u.1 n).2 = 0 ∨ ed_f T u.1 (ed_st T u.1 n).1 (ed_st T u.1 n).2 = 1 ∨ ed_f T u.1 (ed_st T u.1 n).1 (ed_st T u.1 n).2 = 2 ∨ ed_f T u.1 (ed_st T u.1 n).1 (ed_st T u.1 n).2 = 3 := by omega
            rcases hcases with hf | hf | hf | hf
            · have kk := k0 hf
              rw [hf] at hl hst
              have hst : ed_st T u.1 (n + 1) = ((ed_st T u.1 n).1 + 1, (ed_st T u.1 n).2 + 1) := hst
              have hl : lv_has ls 9 [(8, .int (nI (0))), (7, .int (nI (n))), (6, .int (nI (ed_d T u.1 (ed_st T u.1 n).1 (ed_st T u.1 n).2))), (5, .int (nI ((ed_st T u.1 n).2))), (4, .int (nI ((ed_st T u.1 n).1))), (3, .int (nI (w))), (0, .ref (ad (104))), (1, .int (k)), (2, .int (p0))] := hl
              refine lv_iload hF.1 hF.2.1 d_M_edit_73 (lv_at hl 0 rfl) ?_
              refine lv_if_le (tgt := 81) hF.1 hF.2.1 d_M_edit_75 (by decide) (fun _ => ?_) (fun h => absurd (by decide) h)
              refine lv_iload hF.1 hF.2.1 d_M_edit_81 (lv_at hl 0 rfl) ?_
              refine lv_iconst (v := (nI (3))) hF.1 hF.2.1 d_M_edit_83 (by decide) ?_
              refine lv_icmp_eq (tgt := 90) hF.1 hF.2.1 d_M_edit_84 (by decide) (fun h => absurd h (by decide)) (fun _ => ?_)
              refine lv_iinc (k := 4) (v := (nI ((ed_st T u.1 n).1 + 1))) hF.1 hF.2.1 d_M_edit_87 hl rfl (iinc_p ((ed_st T u.1 n).1)) (by decide) rfl (fun ls hl => ?_)
              have hl : lv_has ls 9 [(4, .int (nI ((ed_st T u.1 n).1 + 1))), (8, .int (nI (0))), (7, .int (nI (n))), (6, .int (nI (ed_d T u.1 (ed_st T u.1 n).1 (ed_st T u.1 n).2))), (5, .int (nI ((ed_st T u.1 n).2))), (3, .int (nI (w))), (0, .ref (ad (104))), (1, .int (k)), (2, .int (p0))] := hl
              refine lv_iload hF.1 hF.2.1 d_M_edit_90 (lv_at hl 1 rfl) ?_
              refine lv_iconst (v := (nI (2))) hF.1 hF.2.1 d_M_edit_92 (by decide) ?_
              refine lv_icmp_eq (tgt := 99) hF.1 hF.2.1 d_M_edit_93 (by decide) (fun h => absurd h (by decide)) (fun _ => ?_)
              refine lv_iinc (k := 4) (v := (nI ((ed_st T u.1 n).2 + 1))) hF.1 hF.2.1 d_M_edit_96 hl rfl (iinc_p ((ed_st T u.1 n).2)) (by decide) rfl (fun ls hl => ?_)
              have hl : lv_has ls 9 [(5, .int (nI ((ed_st T u.1 n).2 + 1))), (4, .int (nI ((ed_st T u.1 n).1 + 1))), (8, .int (nI (0))), (7, .int (nI (n))), (6, .int (nI (ed_d T u.1 (ed_st T u.1 n).1 (ed_st T u.1 n).2))), (3, .int (nI (w))), (0, .ref (ad (104))), (1, .int (k)), (2, .int (p0))] := hl
              refine lv_iinc (k := 3) (v := (nI (n + 1))) hF.1 hF.2.1 d_M_edit_99 hl rfl (iinc_p (n)) (by decide) rfl (fun ls hl => ?_)
              have hl : lv_has ls 9 [(7, .int (nI (n + 1))), (5, .int (nI ((ed_st T u.1 n).2 + 1))), (4, .int (nI ((ed_st T u.1 n).1 + 1))), (8, .int (nI (0))), (6, .int (nI (ed_d T u.1 (ed_st T u.1 n).1 (ed_st T u.1 n).2))), (3, .int (nI (w))), (0, .ref (ad (104))), (1, .int (k)), (2, .int (p0))] := hl
              refine lv_goto (tgt := 40) hF.1 hF.2.1 d_M_edit_102 (by decide) ?_
              exact ih (n + 1) en2 H locs ls (by omega) h2 hfr2 (by rw [hst]; show lv_has ls 9 [(7, .int (nI (n + 1))), (6, .int (nI (ed_d T u.1 ((ed_st T u.1 n).1 + 1) ((ed_st T u.1 n).2 + 1)))), (5, .int (nI ((ed_st T u.1 n).2 + 1))), (4, .int (nI ((ed_st T u.1 n).1 + 1))), (3, .int (nI (w))), (0, .ref (ad (104))), (1, .int (k)), (2, .int (p0))]; rw [show ed_d T u.1 ((ed_st T u.1 n).1 + 1) ((ed_st T u.1 n).2 + 1) = ed_d T u.1 (ed_st T u.1 n).1 (ed_st T u.1 n).2 by omega]; exact lv_sub hl [0, 4, 1, 2, 5, 6, 7, 8] rfl) hZ
            · have kk := k1 hf
              rw [hf] at hl hst
              have hst : ed_st T u.1 (n + 1) = ((ed_st T u.1 n).1 + 1, (ed_st T u.1 n).2 + 1) := hst
              have hl : lv_has ls 9 [(8, .int (nI (1))), (7, .int (nI (n))), (6, .int (nI (ed_d T u.1 (ed_st T u.1 n).1 (ed_st T u.1 n).2))), (5, .int (nI ((ed_st T u.1 n).2))), (4, .int (nI ((ed_st T u.1 n).1))), (3, .int (nI (w))), (0, .ref (ad (104))), (1, .int (k)), (2, .int (p0))] := hl
              refine lv_iload hF.1 hF.2.1 d_M_edit_73 (lv_at hl 0 rfl) ?_
              refine lv_if_le (tgt := 81) hF.1 hF.2.1 d_M_edit_75 (by decide) (fun h => absurd h (by decide)) (fun _ => ?_)
              refine lv_iinc (k := 2) (v := (nI (ed_d T u.1 ((ed_st T u.1 n).1 + 1) ((ed_st T u.1 n).2 + 1)))) hF.1 hF.2.1 d_M_edit_78 hl rfl (by rw [show ed_d T u.1 (ed_st T u.1 n).1 (ed_st T u.1 n).2 = ed_d T u.1 ((ed_st T u.1 n).1 + 1) ((ed_st T u.1 n).2 + 1) + 1 by omega]; exact iinc_q _) (by decide) rfl (fun ls hl => ?_)
              have hl : lv_has ls 9 [(6, .int (nI (ed_d T u.1 ((ed_st T u.1 n).1 + 1) ((ed_st T u.1 n).2 + 1)))), (8, .int (nI (1))), (7, .int (nI (n))), (5, .int (nI ((ed_st T u.1 n).2))), (4, .int (nI ((ed_st T u.1 n).1))), (3, .int (nI (w))), (0, .ref (ad (104))), (1, .int (k)), (2, .int (p0))] := hl
              refine lv_iload hF.1 hF.2.1 d_M_edit_81 (lv_at hl 1 rfl) ?_
              refine lv_iconst (v := (nI (3))) hF.1 hF.2.1 d_M_edit_83 (by decide) ?_
              refine lv_icmp_eq (tgt := 90) hF.1 hF.2.1 d_M_edit_84 (by decide) (fun h => absurd h (by decide)) (fun _ => ?_)
              refine lv_iinc (k := 4) (v := (nI ((ed_st T u.1 n).1 + 1))) hF.1 hF.2.1 d_M_edit_87 hl rfl (iinc_p ((ed_st T u.1 n).1)) (by decide) rfl (fun ls hl => ?_)
              have hl : lv_has ls 9 [(4, .int (nI ((ed_st T u.1 n).1 + 1))), (6, .int (nI (ed_d T u.1 ((ed_st T u.1 n).1 + 1) ((ed_st T u.1 n).2 + 1)))), (8, .int (nI (1))), (7, .int (nI (n))), (5, .int (nI ((ed_st T u.1 n).2))), (3, .int (nI (w))), (0, .ref (ad (104))), (1, .int (k)), (2, .int (p0))] := hl
              refine lv_iload hF.1 hF.2.1 d_M_edit_90 (lv_at hl 2 rfl) ?_
              refine lv_iconst (v := (nI (2))) hF.1 hF.2.1 d_M_edit_92 (by decide) ?_
              refine lv_icmp_eq (tgt := 99) hF.1 hF.2.1 d_M_edit_93 (by decide) (fun h => absurd h (by decide)) (fun _ => ?_)
              refine lv_iinc (k := 4) (v := (nI ((ed_st T u.1 n).2 + 1))) hF.1 hF.2.1 d_M_edit_96 hl rfl (iinc_p ((ed_st T u.1 n).2)) (by decide) rfl (fun ls hl => ?_)
              have hl : lv_has ls 9 [(5, .int (nI ((ed_st T u.1 n).2 + 1))), (4, .int (nI ((ed_st T u.1 n).1 + 1))), (6, .int (nI (ed_d T u.1 ((ed_st T u.1 n).1 + 1) ((ed_st T u.1 n).2 + 1)))), (8, .int (nI (1))), (7, .int (nI (n))), (3, .int (nI (w))), (0, .ref (ad (104))), (1, .int (k)), (2, .int (p0))] := hl
              refine lv_iinc (k := 4) (v := (nI (n + 1))) hF.1 hF.2.1 d_M_edit_99 hl rfl (iinc_p (n)) (by decide) rfl (fun ls hl => ?_)
              have hl : lv_has ls 9 [(7, .int (nI (n + 1))), (5, .int (nI ((ed_st T u.1 n).2 + 1))), (4, .int (nI ((ed_st T u.1 n).1 + 1))), (6, .int (nI (ed_d T u.1 ((ed_st T u.1 n).1 + 1) ((ed_st T u.1 n).2 + 1)))), (8, .int (nI (1))), (3, .int (nI (w))), (0, .ref (ad (104))), (1, .int (k)), (2, .int (p0))] := hl
              refine lv_goto (tgt := 40) hF.1 hF.2.1 d_M_edit_102 (by decide) ?_
              exact ih (n + 1) en2 H locs ls (by omega) h2 hfr2 (by rw [hst]; show lv_has ls 9 [(7, .int (nI (n + 1))), (6, .int (nI (ed_d T u.1 ((ed_st T u.1 n).1 + 1) ((ed_st T u.1 n).2 + 1)))), (5, .int (nI ((ed_st T u.1 n).2 + 1))), (4, .int (nI ((ed_st T u.1 n).1 + 1))), (3, .int (nI (w))), (0, .ref (ad (104))), (1, .int (k)), (2, .int (p0))]; exact lv_sub hl [0, 3, 1, 2, 5, 6, 7, 8] rfl) hZ
            · have kk := k2 hf
              rw [hf] at hl hst
              have hst : ed_st T u.1 (n + 1) = ((ed_st T u.1 n).1 + 1, (ed_st T u.1 n).2) := hst
              have hl : lv_has ls 9 [(8, .int (nI (2))), (7, .int (nI (n))), (6, .int (nI (ed_d T u.1 (ed_st T u.1 n).1 (ed_st T u.1 n).2))), (5, .int (nI ((ed_st T u.1 n).2))), (4, .int (nI ((ed_st T u.1 n).1))), (3, .int (nI (w))), (0, .ref (ad (104))), (1, .int (k)), (2, .int (p0))] := hl
              refine lv_iload hF.1 hF.2.1 d_M_edit_73 (lv_at hl 0 rfl) ?_
              refine lv_if_le (tgt := 81) hF.1 hF.2.1 d_M_edit_75 (by decide) (fun h => absurd h (by decide)) (fun _ => ?_)
              refine lv_iinc (k := 2) (v := (nI (ed_d T u.1 ((ed_st T u.1 n).1 + 1) ((ed_st T u.1 n).2)))) hF.1 hF.2.1 d_M_edit_78 hl rfl (by rw [show ed_d T u.1 (ed_st T u.1 n).1 (ed_st T u.1 n).2 = ed_d T u.1 ((ed_st T u.1 n).1 + 1) ((ed_st T u.1 n).2) + 1 by omega]; exact iinc_q _) (by decide) rfl (fun ls hl => ?_)
              have hl : lv_has ls 9 [(6, .int (nI (ed_d T u.1 ((ed_st T u.1 n).1 + 1) ((ed_st T u.1 n).2)))), (8, .int (nI (2))), (7, .int (nI (n))), (5, .int (nI ((ed_st T u.1 n).2))), (4, .int (nI ((ed_st T u.1 n).1))), (3, .int (nI (w))), (0, .ref (ad (104))), (1, .int (k)), (2, .int (p0))] := hl
              refine lv_iload hF.1 hF.2.1 d_M_edit_81 (lv_at hl 1 rfl) ?_
              refine lv_iconst (v := (nI (3))) hF.1 hF.2.1 d_M_edit_83 (by decide) ?_
              refine lv_icmp_eq (tgt := 90) hF.1 hF.2.1 d_M_edit_84 (by decide) (fun h => absurd h (by decide)) (fun _ => ?_)
              refine lv_iinc (k := 4) (v := (nI ((ed_st T u.1 n).1 + 1))) hF.1 hF.2.1 d_M_edit_87 hl rfl (iinc_p ((ed_st T u.1 n).1)) (by decide) rfl (fun ls hl => ?_)
              have hl : lv_has ls 9 [(4, .int (nI ((ed_st T u.1 n).1 + 1))), (6, .int (nI (ed_d T u.1 ((ed_st T u.1 n).1 + 1) ((ed_st T u.1 n).2)))), (8, .int (nI (2))), (7, .int (nI (n))), (5, .int (nI ((ed_st T u.1 n).2))), (3, .int (nI (w))), (0, .ref (ad (104))), (1, .int (k)), (2, .int (p0))] := hl
              refine lv_iload hF.1 hF.2.1 d_M_edit_90 (lv_at hl 2 rfl) ?_
              refine lv_iconst (v := (nI (2))) hF.1 hF.2.1 d_M_edit_92 (by decide) ?_
              refine lv_icmp_eq (tgt := 99) hF.1 hF.2.1 d_M_edit_93 (by decide) (fun _ => ?_) (fun h => absurd (by decide) h)
              refine lv_iinc (k := 3) (v := (nI (n + 1))) hF.1 hF.2.1 d_M_edit_99 hl rfl (iinc_p (n)) (by decide) rfl (fun ls hl => ?_)
              have hl : lv_has ls 9 [(7, .int (nI (n + 1))), (4, .int (nI ((ed_st T u.1 n).1 + 1))), (6, .int (nI (ed_d T u.1 ((ed_st T u.1 n).1 + 1) ((ed_st T u.1 n).2)))), (8, .int (nI (2))), (5, .int (nI ((ed_st T u.1 n).2))), (3, .int (nI (w))), (0, .ref (ad (104))), (1, .int (k)), (2, .int (p0))] := hl
              refine lv_goto (tgt := 40) hF.1 hF.2.1 d_M_edit_102 (by decide) ?_
              exact ih (n + 1) en2 H locs ls (by omega) h2 hfr2 (by rw [hst]; show lv_has ls 9 [(7, .int (nI (n + 1))), (6, .int (nI (ed_d T u.1 ((ed_st T u.1 n).1 + 1) ((ed_st T u.1 n).2)))), (5, .int (nI ((ed_st T u.1 n).2))), (4, .int (nI ((ed_st T u.1 n).1 + 1))), (3, .int (nI (w))), (0, .ref (ad (104))), (1, .int (k)), (2, .int (p0))]; exact lv_sub hl [0, 2, 4, 1, 5, 6, 7, 8] rfl) hZ
            · have kk := k3 hf
              rw [hf] at hl hst
              have hst : ed_st T u.1 (n + 1) = ((ed_st T u.1 n).1, (ed_st T u.1 n).2 + 1) := hst
              have hl : lv_has ls 9 [(8, .int (nI (3))), (7, .int (nI (n))), (6, .int (nI (ed_d T u.1 (ed_st T u.1 n).1 (ed_st T u.1 n).2))), (5, .int (nI ((ed_st T u.1 n).2))), (4, .int (nI ((ed_st T u.1 n).1))), (3, .int (nI (w))), (0, .ref (ad (104))), (1, .int (k)), (2, .int (p0))] := hl
              refine lv_iload hF.1 hF.2.1 d_M_edit_73 (lv_at hl 0 rfl) ?_
              refine lv_if_le (tgt := 81) hF.1 hF.2.1 d_M_edit_75 (by decide) (fun h => absurd h (by decide)) (fun _ => ?_)
              refine lv_iinc (k := 2) (v := (nI (ed_d T u.1 ((ed_st T u.1 n).1) ((ed_st T u.1 n).2 + 1)))) hF.1 hF.2.1 d_M_edit_78 hl rfl (by rw [show ed_d T u.1 (ed_st T u.1 n).1 (ed_st T u.1 n).2 = ed_d T u.1 ((ed_st T u.1 n).1) ((ed_st T u.1 n).2 + 1) + 1 by omega]; exact iinc_q _) (by decide) rfl (fun ls hl => ?_)
              have hl : lv_has ls 9 [(6, .int (nI (ed_d T u.1 ((ed_st T u.1 n).1) ((ed_st T u.1 n).2 + 1)))), (8, .int (nI (3))), (7, .int (nI (n))), (5, .int (nI ((ed_st T u.1 n).2))), (4, .int (nI ((ed_st T u.1 n).1))), (3, .int (nI (w))), (0, .ref (ad (104))), (1, .int (k)), (2, .int (p0))] := hl
              refine lv_iload hF.1 hF.2.1 d_M_edit_81 (lv_at hl 1 rfl) ?_
              refine lv_iconst (v := (nI (3))) hF.1 hF.2.1 d_M_edit_83 (by decide) ?_
              refine lv_icmp_eq (tgt := 90) hF.1 hF.2.1 d_M_edit_84 (by decide) (fun _ => ?_) (fun h => absurd (by decide) h)
              refine lv_iload hF.1 hF.2.1 d_M_edit_90 (lv_at hl 1 rfl) ?_
              refine lv_iconst (v := (nI (2))) hF.1 hF.2.1 d_M_edit_92 (by decide) ?_
              refine lv_icmp_eq (tgt := 99) hF.1 hF.2.1 d_M_edit_93 (by decide) (fun h => absurd h (by decide)) (fun _ => ?_)
              refine lv_iinc (k := 3) (v := (nI ((ed_st T u.1 n).2 + 1))) hF.1 hF.2.1 d_M_edit_96 hl rfl (iinc_p ((ed_st T u.1 n).2)) (by decide) rfl (fun ls hl => ?_)
              have hl : lv_has ls 9 [(5, .int (nI ((ed_st T u.1 n).2 + 1))), (6, .int (nI (ed_d T u.1 ((ed_st T u.1 n).1) ((ed_st T u.1 n).2 + 1)))), (8, .int (nI (3))), (7, .int (nI (n))), (4, .int (nI ((ed_st T u.1 n).1))), (3, .int (nI (w))), (0, .ref (ad (104))), (1, .int (k)), (2, .int (p0))] := hl
              refine lv_iinc (k := 3) (v := (nI (n + 1))) hF.1 hF.2.1 d_M_edit_99 hl rfl (iinc_p (n)) (by decide) rfl (fun ls hl => ?_)
              have hl : lv_has ls 9 [(7, .int (nI (n + 1))), (5, .int (nI ((ed_st T u.1 n).2 + 1))), (6, .int (nI (ed_d T u.1 ((ed_st T u.1 n).1) ((ed_st T u.1 n).2 + 1)))), (8, .int (nI (3))), (4, .int (nI ((ed_st T u.1 n).1))), (3, .int (nI (w))), (0, .ref (ad (104))), (1, .int (k)), (2, .int (p0))] := hl
              refine lv_goto (tgt := 40) hF.1 hF.2.1 d_M_edit_102 (by decide) ?_
              exact ih (n + 1) en2 H locs ls (by omega) h2 hfr2 (by rw [hst]; show lv_has ls 9 [(7, .int (nI (n + 1))), (6, .int (nI (ed_d T u.1 ((ed_st T u.1 n).1) ((ed_st T u.1 n).2 + 1)))), (5, .int (nI ((ed_st T u.1 n).2 + 1))), (4, .int (nI ((ed_st T u.1 n).1))), (3, .int (nI (w))), (0, .ref (ad (104))), (1, .int (k)), (2, .int (p0))]; exact lv_sub hl [0, 2, 1, 4, 5, 6, 7, 8] rfl) hZ
      refine lv_iload_n hF.1 hF.2.1 d_M_edit_10 rfl (lv_at hl 3 rfl) ?_
      refine lv_if_lt (tgt := 20) hF.1 hF.2.1 d_M_edit_11 (by decide) (fun h => absurd h (by rw [hpq]; exact nI_pos (by omega))) (fun _ => ?_)
      refine lv_iload_n hF.1 hF.2.1 d_M_edit_14 rfl (lv_at hl 3 rfl) ?_
      refine lv_bipush (v := (nI (18))) hF.1 hF.2.1 d_M_edit_15 (by decide) ?_
      refine lv_icmp_le (tgt := 22) hF.1 hF.2.1 d_M_edit_17 (by decide) (fun _ => ?_) (fun h => absurd (by rw [hpq]; exact nI_le (by omega) (by omega)) h)
      refine lv_iconst (v := (nI (0))) hF.1 hF.2.1 d_M_edit_22 (by decide) ?_
      refine lv_istore hF.1 hF.2.1 d_M_edit_23 hl (by decide) rfl (fun ls hl => ?_)
      have hl : lv_has ls 9 [(4, .int (nI (0))), (3, .int (nI (w))), (0, .ref (ad (104))), (1, .int (k)), (2, .int (p0))] := hl
      refine lv_iconst (v := (nI (0))) hF.1 hF.2.1 d_M_edit_25 (by decide) ?_
      refine lv_istore hF.1 hF.2.1 d_M_edit_26 hl (by decide) rfl (fun ls hl => ?_)
      have hl : lv_has ls 9 [(5, .int (nI (0))), (4, .int (nI (0))), (3, .int (nI (w))), (0, .ref (ad (104))), (1, .int (k)), (2, .int (p0))] := hl
      refine lv_aload_n hF.1 hF.2.1 d_M_edit_28 rfl (lv_at hl 3 rfl) ?_
      refine lv_iload_n hF.1 hF.2.1 d_M_edit_29 rfl (lv_at hl 2 rfl) ?_
      refine lv_iconst (v := (nI (0))) hF.1 hF.2.1 d_M_edit_30 (by decide) ?_
      refine lv_iconst (v := (nI (0))) hF.1 hF.2.1 d_M_edit_31 (by decide) ?_
      refine z_calli hZ (z_run cw_M_64 hF hZ (104) (c_M_far l hN h hw (i := 0) (j := 0) (Nat.zero_le _) (Nat.zero_le _)) (by decide) (by omega) p1 rfl rfl hl.1 rfl (Nat.le_of_ble_eq_true rfl) d_M_edit_32) (fun v en1 H locs hq hZ => ?_)
      obtain ⟨hv, ⟨f, e9⟩, hq2⟩ := hq
      subst hv
      refine lv_istore hF.1 hF.2.1 d_M_edit_35 hl (by decide) rfl (fun ls hl => ?_)
      have hl : lv_has ls 9 [(6, .int (nI (ed_d T u.1 0 0))), (5, .int (nI (0))), (4, .int (nI (0))), (3, .int (nI (w))), (0, .ref (ad (104))), (1, .int (k)), (2, .int (p0))] := hl
      refine lv_iconst (v := (nI (0))) hF.1 hF.2.1 d_M_edit_37 (by decide) ?_
      refine lv_istore hF.1 hF.2.1 d_M_edit_38 hl (by decide) rfl (fun ls hl => ?_)
      have hl : lv_has ls 9 [(7, .int (nI (0))), (6, .int (nI (ed_d T u.1 0 0))), (5, .int (nI (0))), (4, .int (nI (0))), (3, .int (nI (w))), (0, .ref (ad (104))), (1, .int (k)), (2, .int (p0))] := hl
      exact loop q 0 en1 H locs ls (by omega) (h.k109 e9 hq2) hq2 hl hZ
  · subst hv
    refine lv_istore_n hF.1 hF.2.1 d_M_edit_5 rfl hl (by decide) rfl (fun ls hl => ?_)
    have hl : lv_has ls 9 [(3, .int ((-1))), (0, .ref (ad (104))), (1, .int (k)), (2, .int (p0))] := hl
    refine lv_iload_n hF.1 hF.2.1 d_M_edit_6 rfl (lv_at hl 0 rfl) ?_
    refine lv_if_lt (tgt := 20) hF.1 hF.2.1 d_M_edit_7 (by decide) (fun _ => ?_) (fun h => absurd (by decide) h)
    refine lv_iconst (v := ((-1))) hF.1 hF.2.1 d_M_edit_20 (by decide) ?_
    exact z_iret hF hr hlocks hZ rfl ⟨h, fun _ _ => rfl, Or.inr ⟨hno, rfl⟩⟩ d_M_edit_21
