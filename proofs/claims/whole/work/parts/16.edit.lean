theorem nmin {a b : Nat} (ha : a < 2 ^ 31) (hb : b < 2 ^ 31) : (if nI b < nI a then nI b else nI a) = nI (min a b) := by
  by_cases q : b < a
  · rw [if_pos (nI_lt q ha), Nat.min_eq_right (by omega)]
  · rw [if_neg (nI_nlt (by omega) hb), Nat.min_eq_left (by omega)]
theorem iinc_v (c : Nat) : nI c + Int32.ofInt (-1) = iv c := by
  unfold iv; rw [show Int32.ofInt (-1) = -1 by decide, Int32.sub_eq_add_neg]
theorem ed_18 {xs ys : List Nat} {i j : Nat} (hi : i ≤ xs.length) (hj : j ≤ ys.length) (hx : xs.length ≤ 10) (hy : ys.length ≤ 8) : ed_d xs ys i j ≤ 18 := by
  have := ed_d_up xs ys hi hj; omega
theorem cd_iff {xs ys : List Nat} {i j : Nat} (hi : i < xs.length) (hj : j < ys.length) : wd_cd xs i = wd_cd ys j ↔ xs.getD i 0 = ys.getD j 0 := by rw [wd_cd_in hi, wd_cd_in hj]; omega
set_option maxHeartbeats 4000000 in
set_option maxRecDepth 100000 in
theorem c_E_leastCost (l : Launch) {G : zG} {ad : Nat → Nat} {en : Nat → va_E} {N : Nat} {k1 a1 c1 : Nat} {xs : List Nat} (hk1 : k1 < N) (ha1 : a1 < N) (hn1 : k1 ≠ a1) (hc1 : c1 < 2 ^ 31) (g : pL G ad en k1 a1 c1 xs) {k2 a2 c2 : Nat} {ys : List Nat} (hk2 : k2 < N) (ha2 : a2 < N) (hn2 : k2 ≠ a2) (hc2 : c2 < 2 ^ 31) (h : pL G ad en k2 a2 c2 ys) (hx : xs.length ≤ 10) (hy : ys.length ≤ 8) (hN : 90 ≤ N) {M : Nat → Nat → Int32} (hT : pT G ad en 77 kE 9 M) {i j : Nat} (hi : i ≤ xs.length) (hj : j ≤ ys.length) (hM : i < xs.length → j < ys.length → M (i + 1) (j + 1) = nI (ed_d xs ys (i + 1) (j + 1)) ∧ M (i + 1) j = nI (ed_d xs ys (i + 1) j) ∧ M i (j + 1) = nI (ed_d xs ys i (j + 1))) : zMi l y_E_leastCost b_E_leastCost 7 .int 2 G ad en N [.ref (ad (77)), .ref (ad (k1)), .int (nI (i)), .ref (ad (k2)), .int (nI (j))] (fun v en1 => en1 = en ∧ v = nI (ed_d xs ys i j)) := by
  have gg := g
  obtain ⟨e1, g1, g26, f1, e2, g2⟩ := gg
  have hh := h
  obtain ⟨e3, h1, h26, f2, e4, h2⟩ := hh
  have tt := hT
  obtain ⟨t1, ⟨tg, t2, t2g⟩, t3⟩ := tt
  refine z_met (by decide) (Nat.le_of_ble_eq_true rfl) ?_
  intro p e s m below meth c ls hF hr hlocks hnam hZ hl
  have hF : CallFix p m c b_E_leastCost 7 s ([.ref (ad (77)), .ref (ad (k1)), .int (nI (i)), .ref (ad (k2)), .int (nI (j))] : List Value).toArray zz R_E := hF
  have hl : lv_has ls 7 [(0, .ref (ad (77))), (1, .ref (ad (k1))), (2, .int (nI (i))), (3, .ref (ad (k2))), (4, .int (nI (j)))] := hl
  refine lv_iload_n hF.1 hF.2.1 d_E_leastCost_0 rfl (lv_at hl 2 rfl) ?_
  refine lv_aload_n hF.1 hF.2.1 d_E_leastCost_1 rfl (lv_at hl 1 rfl) ?_
  refine gf_E_16 hF hZ (k1) hk1 e1 rfl d_E_leastCost_2 ?_
  refine lv_icmp_ne (tgt := 16) hF.1 hF.2.1 d_E_leastCost_5 (by decide) (fun q => ?_) (fun q => ?_)
  · have q : ¬ i = xs.length := fun z => q (by rw [z])
    refine lv_iload hF.1 hF.2.1 d_E_leastCost_16 (lv_at hl 4 rfl) ?_
    refine lv_aload_n hF.1 hF.2.1 d_E_leastCost_18 rfl (lv_at hl 3 rfl) ?_
    refine gf_E_16 hF hZ (k2) hk2 e3 rfl d_E_leastCost_19 ?_
    refine lv_icmp_ne (tgt := 32) hF.1 hF.2.1 d_E_leastCost_22 (by decide) (fun r => ?_) (fun r => ?_)
    · have r : ¬ j = ys.length := fun z => r (by rw [z])
      obtain ⟨m1, m2, m3⟩ := hM (by omega) (by omega)
      have b1 := ed_18 (xs := xs) (ys := ys) (i := i + 1) (j := j + 1) (by omega) (by omega) hx hy
      have b2 := ed_18 (xs := xs) (ys := ys) (i := i + 1) (j := j) (by omega) (by omega) hx hy
      have b3 := ed_18 (xs := xs) (ys := ys) (i := i) (j := j + 1) (by omega) (by omega) hx hy
      have hs := ed_d_s (t := xs) (w := ys) (i := i) (j := j) (by omega) (by omega)
      refine lv_aload_n hF.1 hF.2.1 d_E_leastCost_32 rfl (lv_at hl 0 rfl) ?_
      refine gf_E_11 hF hZ (77) (by omega) t1 rfl d_E_leastCost_33 ?_
      refine lv_iload_n hF.1 hF.2.1 d_E_leastCost_36 rfl (lv_at hl 2 rfl) ?_
      refine lv_iconst (v := (nI (1))) hF.1 hF.2.1 d_E_leastCost_37 (by decide) ?_
      refine lv_iadd hF.1 hF.2.1 d_E_leastCost_38 ?_
      refine z_top (nI_add (i) (1)) ?_
      refine z_mald hF hZ (77 + 1) (by omega) t2 (i + 1) (by omega) (by omega) (t2g (i + 1) (by omega)) d_E_leastCost_39 ?_
      refine lv_iload hF.1 hF.2.1 d_E_leastCost_40 (lv_at hl 4 rfl) ?_
      refine lv_iconst (v := (nI (1))) hF.1 hF.2.1 d_E_leastCost_42 (by decide) ?_
      refine lv_iadd hF.1 hF.2.1 d_E_leastCost_43 ?_
      refine z_top (nI_add (j) (1)) ?_
      refine z_iald hF hZ (77 + 2 + (i + 1)) (by omega) (t3 (i + 1) (by omega)) (j + 1) (by omega) (by omega) d_E_leastCost_44 ?_
      refine z_top (y := (nI (ed_d xs ys (i + 1) (j + 1)))) m1 ?_
      refine lv_aload_n hF.1 hF.2.1 d_E_leastCost_45 rfl (lv_at hl 1 rfl) ?_
      refine lv_iload_n hF.1 hF.2.1 d_E_leastCost_46 rfl (lv_at hl 2 rfl) ?_
      refine z_calli hZ (z_run cw_E_33 hF hZ (k1) (c_L_atN l hk1 ha1 hn1 hc1 g (j := i) (by omega)) (by decide) hk1 e1 rfl rfl hl.1 rfl (Nat.le_of_ble_eq_true rfl) d_E_leastCost_47) (fun v enq H locs hp hZ => ?_)
      obtain ⟨he, hv⟩ := hp
      subst hv
      have hZ := hZ.to he
      refine lv_aload_n hF.1 hF.2.1 d_E_leastCost_50 rfl (lv_at hl 3 rfl) ?_
      refine lv_iload hF.1 hF.2.1 d_E_leastCost_51 (lv_at hl 4 rfl) ?_
      refine z_calli hZ (z_run cw_E_33 hF hZ (k2) (c_L_atN l hk2 ha2 hn2 hc2 h (j := j) (by omega)) (by decide) hk2 e3 rfl rfl hl.1 rfl (Nat.le_of_ble_eq_true rfl) d_E_leastCost_53) (fun v enq H locs hp hZ => ?_)
      obtain ⟨he, hv⟩ := hp
      subst hv
      have hZ := hZ.to he
      refine lv_icmp_ne (tgt := 63) hF.1 hF.2.1 d_E_leastCost_56 (by decide) (fun u => ?_) (fun u => ?_)
      · have u : ¬ xs.getD i 0 = ys.getD j 0 := fun z => u (by rw [(cd_iff (by omega) (by omega)).mpr z])
        refine lv_iconst (v := (nI (1))) hF.1 hF.2.1 d_E_leastCost_63 (by decide) ?_
        refine lv_iadd hF.1 hF.2.1 d_E_leastCost_64 ?_
        refine z_top (nI_add (ed_d xs ys (i + 1) (j + 1)) (1)) ?_
        refine lv_istore hF.1 hF.2.1 d_E_leastCost_65 hl (by decide) rfl (fun ls hl => ?_)
        have hl : lv_has ls 7 [(5, .int (nI (ed_d xs ys (i + 1) (j + 1) + 1))), (0, .ref (ad (77))), (1, .ref (ad (k1))), (2, .int (nI (i))), (3, .ref (ad (k2))), (4, .int (nI (j)))] := hl
        refine lv_iconst (v := (nI (1))) hF.1 hF.2.1 d_E_leastCost_67 (by decide) ?_
        refine lv_aload_n hF.1 hF.2.1 d_E_leastCost_68 rfl (lv_at hl 1 rfl) ?_
        refine gf_E_11 hF hZ (77) (by omega) t1 rfl d_E_leastCost_69 ?_
        refine lv_iload_n hF.1 hF.2.1 d_E_leastCost_72 rfl (lv_at hl 3 rfl) ?_
        refine lv_iconst (v := (nI (1))) hF.1 hF.2.1 d_E_leastCost_73 (by decide) ?_
        refine lv_iadd hF.1 hF.2.1 d_E_leastCost_74 ?_
        refine z_top (nI_add (i) (1)) ?_
        refine z_mald hF hZ (77 + 1) (by omega) t2 (i + 1) (by omega) (by omega) (t2g (i + 1) (by omega)) d_E_leastCost_75 ?_
        refine lv_iload hF.1 hF.2.1 d_E_leastCost_76 (lv_at hl 5 rfl) ?_
        refine z_iald hF hZ (77 + 2 + (i + 1)) (by omega) (t3 (i + 1) (by omega)) (j) (by omega) (by omega) d_E_leastCost_78 ?_
        refine z_top (y := (nI (ed_d xs ys (i + 1) j))) m2 ?_
        refine lv_aload_n hF.1 hF.2.1 d_E_leastCost_79 rfl (lv_at hl 1 rfl) ?_
        refine gf_E_11 hF hZ (77) (by omega) t1 rfl d_E_leastCost_80 ?_
        refine lv_iload_n hF.1 hF.2.1 d_E_leastCost_83 rfl (lv_at hl 3 rfl) ?_
        refine z_mald hF hZ (77 + 1) (by omega) t2 (i) (by omega) (by omega) (t2g (i) (by omega)) d_E_leastCost_84 ?_
        refine lv_iload hF.1 hF.2.1 d_E_leastCost_85 (lv_at hl 5 rfl) ?_
        refine lv_iconst (v := (nI (1))) hF.1 hF.2.1 d_E_leastCost_87 (by decide) ?_
        refine lv_iadd hF.1 hF.2.1 d_E_leastCost_88 ?_
        refine z_top (nI_add (j) (1)) ?_
        refine z_iald hF hZ (77 + 2 + (i)) (by omega) (t3 (i) (by omega)) (j + 1) (by omega) (by omega) d_E_leastCost_89 ?_
        refine z_top (y := (nI (ed_d xs ys i (j + 1)))) m3 ?_
        refine va_mmin hF.1 hF.2.1 (hF.2.2.1.trans hl.1.symm) hF.2.2.2.1 (hF.2.2.2.2 _ ml_E_37) (hF.2.2.2.2 _ sm_Math_min) (hF.2.2.2.2 _ in_Math) (hF.2.2.2.2 _ cd_Math_min) (Nat.le_of_ble_eq_true rfl) (Nat.le_of_ble_eq_true rfl) (Nat.le_of_ble_eq_true rfl) (Nat.le_of_ble_eq_true rfl) d_E_leastCost_90 ?_
        refine z_top (y := (nI (min (ed_d xs ys (i + 1) j) (ed_d xs ys i (j + 1))))) (nmin (by omega) (by omega)) ?_
        refine lv_iadd hF.1 hF.2.1 d_E_leastCost_93 ?_
        refine z_top (nI_add (1) (min (ed_d xs ys (i + 1) j) (ed_d xs ys i (j + 1)))) ?_
        refine lv_istore hF.1 hF.2.1 d_E_leastCost_94 hl (by decide) rfl (fun ls hl => ?_)
        have hl : lv_has ls 7 [(6, .int (nI (1 + min (ed_d xs ys (i + 1) j) (ed_d xs ys i (j + 1))))), (5, .int (nI (ed_d xs ys (i + 1) (j + 1) + 1))), (0, .ref (ad (77))), (1, .ref (ad (k1))), (2, .int (nI (i))), (3, .ref (ad (k2))), (4, .int (nI (j)))] := hl
        refine lv_iload hF.1 hF.2.1 d_E_leastCost_96 (lv_at hl 1 rfl) ?_
        refine lv_iload hF.1 hF.2.1 d_E_leastCost_98 (lv_at hl 0 rfl) ?_
        refine va_mmin hF.1 hF.2.1 (hF.2.2.1.trans hl.1.symm) hF.2.2.2.1 (hF.2.2.2.2 _ ml_E_37) (hF.2.2.2.2 _ sm_Math_min) (hF.2.2.2.2 _ in_Math) (hF.2.2.2.2 _ cd_Math_min) (Nat.le_of_ble_eq_true rfl) (Nat.le_of_ble_eq_true rfl) (Nat.le_of_ble_eq_true rfl) (Nat.le_of_ble_eq_true rfl) d_E_leastCost_100 ?_
        refine z_top (y := (nI (ed_d xs ys i j))) ((nmin (by omega) (by omega)).trans (by rw [hs, if_neg u])) ?_
        exact z_iret hF hr hlocks hZ rfl ⟨rfl, rfl⟩ d_E_leastCost_103
      · have u : xs.getD i 0 = ys.getD j 0 := (cd_iff (by omega) (by omega)).mp ((iv_eq (wd_cd_26 g26 i) (wd_cd_26 h26 j)).mp u)
        refine lv_iconst (v := (nI (0))) hF.1 hF.2.1 d_E_leastCost_59 (by decide) ?_
        refine lv_goto (tgt := 64) hF.1 hF.2.1 d_E_leastCost_60 (by decide) ?_
        refine lv_iadd hF.1 hF.2.1 d_E_leastCost_64 ?_
        refine z_top (nI_add (ed_d xs ys (i + 1) (j + 1)) (0)) ?_
        refine lv_istore hF.1 hF.2.1 d_E_leastCost_65 hl (by decide) rfl (fun ls hl => ?_)
        have hl : lv_has ls 7 [(5, .int (nI (ed_d xs ys (i + 1) (j + 1) + 0))), (0, .ref (ad (77))), (1, .ref (ad (k1))), (2, .int (nI (i))), (3, .ref (ad (k2))), (4, .int (nI (j)))] := hl
        refine lv_iconst (v := (nI (1))) hF.1 hF.2.1 d_E_leastCost_67 (by decide) ?_
        refine lv_aload_n hF.1 hF.2.1 d_E_leastCost_68 rfl (lv_at hl 1 rfl) ?_
        refine gf_E_11 hF hZ (77) (by omega) t1 rfl d_E_leastCost_69 ?_
        refine lv_iload_n hF.1 hF.2.1 d_E_leastCost_72 rfl (lv_at hl 3 rfl) ?_
        refine lv_iconst (v := (nI (1))) hF.1 hF.2.1 d_E_leastCost_73 (by decide) ?_
        refine lv_iadd hF.1 hF.2.1 d_E_leastCost_74 ?_
        refine z_top (nI_add (i) (1)) ?_
        refine z_mald hF hZ (77 + 1) (by omega) t2 (i + 1) (by omega) (by omega) (t2g (i + 1) (by omega)) d_E_leastCost_75 ?_
        refine lv_iload hF.1 hF.2.1 d_E_leastCost_76 (lv_at hl 5 rfl) ?_
        refine z_iald hF hZ (77 + 2 + (i + 1)) (by omega) (t3 (i + 1) (by omega)) (j) (by omega) (by omega) d_E_leastCost_78 ?_
        refine z_top (y := (nI (ed_d xs ys (i + 1) j))) m2 ?_
        refine lv_aload_n hF.1 hF.2.1 d_E_leastCost_79 rfl (lv_at hl 1 rfl) ?_
        refine gf_E_11 hF hZ (77) (by omega) t1 rfl d_E_leastCost_80 ?_
        refine lv_iload_n hF.1 hF.2.1 d_E_leastCost_83 rfl (lv_at hl 3 rfl) ?_
        refine z_mald hF hZ (77 + 1) (by omega) t2 (i) (by omega) (by omega) (t2g (i) (by omega)) d_E_leastCost_84 ?_
        refine lv_iload hF.1 hF.2.1 d_E_leastCost_85 (lv_at hl 5 rfl) ?_
        refine lv_iconst (v := (nI (1))) hF.1 hF.2.1 d_E_leastCost_87 (by decide) ?_
        refine lv_iadd hF.1 hF.2.1 d_E_leastCost_88 ?_
        refine z_top (nI_add (j) (1)) ?_
        refine z_iald hF hZ (77 + 2 + (i)) (by omega) (t3 (i) (by omega)) (j + 1) (by omega) (by omega) d_E_leastCost_89 ?_
        refine z_top (y := (nI (ed_d xs ys i (j + 1)))) m3 ?_
        refine va_mmin hF.1 hF.2.1 (hF.2.2.1.trans hl.1.symm) hF.2.2.2.1 (hF.2.2.2.2 _ ml_E_37) (hF.2.2.2.2 _ sm_Math_min) (hF.2.2.2.2 _ in_Math) (hF.2.2.2.2 _ cd_Math_min) (Nat.le_of_ble_eq_true rfl) (Nat.le_of_ble_eq_true rfl) (Nat.le_of_ble_eq_true rfl) (Nat.le_of_ble_eq_true rfl) d_E_leastCost_90 ?_
        refine z_top (y := (nI (min (ed_d xs ys (i + 1) j) (ed_d xs ys i (j + 1))))) (nmin (by omega) (by omega)) ?_
        refine lv_iadd hF.1 hF.2.1 d_E_leastCost_93 ?_
        refine z_top (nI_add (1) (min (ed_d xs ys (i + 1) j) (ed_d xs ys i (j + 1)))) ?_
        refine lv_istore hF.1 hF.2.1 d_E_leastCost_94 hl (by decide) rfl (fun ls hl => ?_)
        have hl : lv_has ls 7 [(6, .int (nI (1 + min (ed_d xs ys (i + 1) j) (ed_d xs ys i (j + 1))))), (5, .int (nI (ed_d xs ys (i + 1) (j + 1) + 0))), (0, .ref (ad (77))), (1, .ref (ad (k1))), (2, .int (nI (i))), (3, .ref (ad (k2))), (4, .int (nI (j)))] := hl
        refine lv_iload hF.1 hF.2.1 d_E_leastCost_96 (lv_at hl 1 rfl) ?_
        refine lv_iload hF.1 hF.2.1 d_E_leastCost_98 (lv_at hl 0 rfl) ?_
        refine va_mmin hF.1 hF.2.1 (hF.2.2.1.trans hl.1.symm) hF.2.2.2.1 (hF.2.2.2.2 _ ml_E_37) (hF.2.2.2.2 _ sm_Math_min) (hF.2.2.2.2 _ in_Math) (hF.2.2.2.2 _ cd_Math_min) (Nat.le_of_ble_eq_true rfl) (Nat.le_of_ble_eq_true rfl) (Nat.le_of_ble_eq_true rfl) (Nat.le_of_ble_eq_true rfl) d_E_leastCost_100 ?_
        refine z_top (y := (nI (ed_d xs ys i j))) ((nmin (by omega) (by omega)).trans (by rw [hs, if_pos u])) ?_
        exact z_iret hF hr hlocks hZ rfl ⟨rfl, rfl⟩ d_E_leastCost_103
    · have r : j = ys.length := (nI_eq (by omega) (by omega)).mp r
      refine lv_aload_n hF.1 hF.2.1 d_E_leastCost_25 rfl (lv_at hl 1 rfl) ?_
      refine gf_E_16 hF hZ (k1) hk1 e1 rfl d_E_leastCost_26 ?_
      refine lv_iload_n hF.1 hF.2.1 d_E_leastCost_29 rfl (lv_at hl 2 rfl) ?_
      refine lv_isub hF.1 hF.2.1 d_E_leastCost_30 ?_
      refine z_top (pk_sub (show i ≤ xs.length by omega)) ?_
      exact z_iret hF hr hlocks hZ rfl ⟨rfl, by rw [ed_d_j r]⟩ d_E_leastCost_31
  · have q : i = xs.length := (nI_eq (by omega) (by omega)).mp q
    refine lv_aload_n hF.1 hF.2.1 d_E_leastCost_8 rfl (lv_at hl 3 rfl) ?_
    refine gf_E_16 hF hZ (k2) hk2 e3 rfl d_E_leastCost_9 ?_
    refine lv_iload hF.1 hF.2.1 d_E_leastCost_12 (lv_at hl 4 rfl) ?_
    refine lv_isub hF.1 hF.2.1 d_E_leastCost_14 ?_
    refine z_top (pk_sub (show j ≤ ys.length by omega)) ?_
    exact z_iret hF hr hlocks hZ rfl ⟨rfl, by rw [ed_d_i q]⟩ d_E_leastCost_15
set_option maxHeartbeats 4000000 in
set_option maxRecDepth 100000 in
theorem c_E_measure (l : Launch) {G : zG} {ad : Nat → Nat} {en : Nat → va_E} {N : Nat} {k1 a1 c1 : Nat} {xs : List Nat} (hk1 : k1 < N) (ha1 : a1 < N) (hn1 : k1 ≠ a1) (hc1 : c1 < 2 ^ 31) (g : pL G ad en k1 a1 c1 xs) {k2 a2 c2 : Nat} {ys : List Nat} (hk2 : k2 < N) (ha2 : a2 < N) (hn2 : k2 ≠ a2) (hc2 : c2 < 2 ^ 31) (h : pL G ad en k2 a2 c2 ys) (hx : xs.length ≤ 10) (hy : ys.length ≤ 8) (hN : 90 ≤ N) {M : Nat → Nat → Int32} (hT : pT G ad en 77 kE 9 M) (r1 : k1 < 77 ∨ 90 ≤ k1) (r2 : a1 < 77 ∨ 90 ≤ a1) (r3 : k2 < 77 ∨ 90 ≤ k2) (r4 : a2 < 77 ∨ 90 ≤ a2) : zMi l y_E_measure b_E_measure 5 .int 3 G ad en N [.ref (ad (77)), .ref (ad (k1)), .ref (ad (k2))] (fun v en1 => v = nI (ed_d xs ys 0 0) ∧ (∃ M1, pT G ad en1 77 kE 9 M1 ∧ ∀ a b, a ≤ xs.length → b ≤ ys.length → M1 a b = nI (ed_d xs ys a b)) ∧ ∀ r, r < 77 ∨ 90 ≤ r → en1 r = en r) := by
  refine z_met (by decide) (Nat.le_of_ble_eq_true rfl) ?_
  intro p e s m below meth c ls hF hr hlocks hnam hZ hl
  have hF : CallFix p m c b_E_measure 5 s ([.ref (ad (77)), .ref (ad (k1)), .ref (ad (k2))] : List Value).toArray zz R_E := hF
  have hl : lv_has ls 5 [(0, .ref (ad (77))), (1, .ref (ad (k1))), (2, .ref (ad (k2)))] := hl
  have inner : ∀ (q i : Nat) (M : Nat → Nat → Int32) (en1 : Nat → va_E) (H : Heap) (locs : List Loc) (ls : Array Slot), i ≤ xs.length → q ≤ ys.length + 1 → (pT G ad en1 77 kE 9 M) → (∀ r, r < 77 ∨ 90 ≤ r → en1 r = en r) → (∀ a b, i < a → a ≤ xs.length → b ≤ ys.length → M a b = nI (ed_d xs ys a b)) → (∀ b, q ≤ b → b ≤ ys.length → M i b = nI (ed_d xs ys i b)) → (∀ (M : Nat → Nat → Int32) (en1 : Nat → va_E) (H : Heap) (locs : List Loc) (ls : Array Slot), (pT G ad en1 77 kE 9 M) → (∀ r, r < 77 ∨ 90 ≤ r → en1 r = en r) → (∀ a b, i ≤ a → a ≤ xs.length → b ≤ ys.length → M a b = nI (ed_d xs ys a b)) → lv_has ls 5 [(4, .int (iv 0)), (3, .int (nI (i))), (0, .ref (ad (77))), (1, .ref (ad (k1))), (2, .ref (ad (k2)))] → zH G ad en1 N s H locs → W p l e (zR 3) s m ([.ref (ad (77)), .ref (ad (k1)), .ref (ad (k2))] : List Value).toArray below meth c H locs 0 0 (MQ below (zQi G ad N (fun v en1 => v = nI (ed_d xs ys 0 0) ∧ (∃ M1, pT G ad en1 77 kE 9 M1 ∧ ∀ a b, a ≤ xs.length → b ≤ ys.length → M1 a b = nI (ed_d xs ys a b)) ∧ ∀ r, r < 77 ∨ 90 ≤ r → en1 r = en r)) ([.ref (ad (77)), .ref (ad (k1)), .ref (ad (k2))] : List Value).toArray s 0 0 (zA G)) (F0 m 44 ls [])) → lv_has ls 5 [(4, .int (iv q)), (3, .int (nI (i))), (0, .ref (ad (77))), (1, .ref (ad (k1))), (2, .ref (ad (k2)))] → zH G ad en1 N s H locs → W p l e (zR 3) s m ([.ref (ad (77)), .ref (ad (k1)), .ref (ad (k2))] : List Value).toArray below meth c H locs 0 0 (MQ below (zQi G ad N (fun v en1 => v = nI (ed_d xs ys 0 0) ∧ (∃ M1, pT G ad en1 77 kE 9 M1 ∧ ∀ a b, a ≤ xs.length → b ≤ ys.length → M1 a b = nI (ed_d xs ys a b)) ∧ ∀ r, r < 77 ∨ 90 ≤ r → en1 r = en r)) ([.ref (ad (77)), .ref (ad (k1)), .ref (ad (k2))] : List Value).toArray s 0 0 (zA G)) (F0 m 15 ls []) := by
    intro q
    induction q with
    | zero =>
      intro i M en1 H locs ls hi hq hT hfr hM1 hM2 K hl hZ
      refine lv_iload hF.1 hF.2.1 d_E_measure_15 (lv_at hl 0 rfl) ?_
      refine lv_if_lt (tgt := 44) hF.1 hF.2.1 d_E_measure_17 (by decide) (fun _ => ?_) (fun h => absurd (show iv 0 < 0 by decide) h)
      refine K M en1 H locs ls hT hfr (fun a b ha hb hc => ?_) hl hZ
      by_cases z : a = i
      · subst z; exact hM2 b (Nat.zero_le _) hc
      · exact hM1 a b (by omega) hb hc
    | succ q ih =>
      intro i M en1 H locs ls hi hq hT hfr hM1 hM2 K hl hZ
      rw [iv_s] at hl
      have g0 := g.keep (hfr k1 r1) (hfr a1 r2)
      have h0 := h.keep (hfr k2 r3) (hfr a2 r4)
      have gg := g0
      obtain ⟨e1, g1, g26, f1, e2, g2⟩ := gg
      have hh := h0
      obtain ⟨e3, h1, h26, f2, e4, h2⟩ := hh
      have tt := hT
      obtain ⟨t1, ⟨tg, t2, t2g⟩, t3⟩ := tt
      refine lv_iload hF.1 hF.2.1 d_E_measure_15 (lv_at hl 0 rfl) ?_
      refine lv_if_lt (tgt := 44) hF.1 hF.2.1 d_E_measure_17 (by decide) (fun h => absurd h (nI_pos (by omega))) (fun _ => ?_)
      refine lv_aload_n hF.1 hF.2.1 d_E_measure_20 rfl (lv_at hl 2 rfl) ?_
      refine gf_E_11 hF hZ (77) (by omega) t1 rfl d_E_measure_21 ?_
      refine lv_iload_n hF.1 hF.2.1 d_E_measure_24 rfl (lv_at hl 1 rfl) ?_
      refine z_mald hF hZ (77 + 1) (by omega) t2 (i) (by omega) (by omega) (t2g (i) (by omega)) d_E_measure_25 ?_
      refine lv_iload hF.1 hF.2.1 d_E_measure_26 (lv_at hl 0 rfl) ?_
      refine lv_aload_n hF.1 hF.2.1 d_E_measure_28 rfl (lv_at hl 2 rfl) ?_
      refine lv_aload_n hF.1 hF.2.1 d_E_measure_29 rfl (lv_at hl 3 rfl) ?_
      refine lv_iload_n hF.1 hF.2.1 d_E_measure_30 rfl (lv_at hl 1 rfl) ?_
      refine lv_aload_n hF.1 hF.2.1 d_E_measure_31 rfl (lv_at hl 4 rfl) ?_
      refine lv_iload hF.1 hF.2.1 d_E_measure_32 (lv_at hl 0 rfl) ?_
      refine z_calli hZ (z_run cw_E_22 hF hZ (77) (c_E_leastCost l hk1 ha1 hn1 hc1 g0 hk2 ha2 hn2 hc2 h0 hx hy hN hT (i := i) (j := q) hi (by omega) (fun z1 z2 => ⟨hM1 _ _ (by omega) (by omega) (by omega), hM1 _ _ (by omega) (by omega) (by omega), hM2 _ (by omega) (by omega)⟩)) (by decide) (by omega) t1 rfl rfl hl.1 rfl (Nat.le_of_ble_eq_true rfl) d_E_measure_34) (fun v enq H locs hp hZ => ?_)
      obtain ⟨he, hv⟩ := hp
      subst hv
      have hZ := hZ.to he
      refine z_iast hF hZ (77 + 2 + (i)) (by omega) (t3 (i) (by omega)) (q) (by omega) (by omega) d_E_measure_37 (fun H locs hZ => ?_)
      obtain ⟨ze1, hn2⟩ : ∃ z, z = va_up en1 (77 + 2 + (i)) (.inl (zI G, 9, .inl (upd (M (i)) (q) (nI (ed_d xs ys i q))))) := ⟨_, rfl⟩
      have hZ : zH G ad ze1 N s H locs := hZ.to hn2.symm
      have ff3 : ze1 (k1) = .inr (kL, [.ref (ad (a1)), .int (nI (xs.length))]) := by rw [hn2, va_up_ne _ _ (by omega)]; exact e1
      have ff4 : ze1 (a1) = .inl (zI G, c1, .inl (f1)) := by rw [hn2, va_up_ne _ _ (by omega)]; exact e2
      have ff5 : ze1 (k2) = .inr (kL, [.ref (ad (a2)), .int (nI (ys.length))]) := by rw [hn2, va_up_ne _ _ (by omega)]; exact e3
      have ff6 : ze1 (a2) = .inl (zI G, c2, .inl (f2)) := by rw [hn2, va_up_ne _ _ (by omega)]; exact e4
      have ff7 : ze1 (77) = .inr (kE, [.ref (ad (77 + 1))]) := by rw [hn2, va_up_ne _ _ (by omega)]; exact t1
      have ff8 : ze1 (77 + 1) = .inl (zM G, 11, z_refs tg) := by rw [hn2, va_up_ne _ _ (by omega)]; exact t2
      have ff9 : ze1 (77 + 2 + (i)) = .inl (zI G, 9, .inl (upd (M (i)) (q) (nI (ed_d xs ys i q)))) := by rw [hn2]; exact va_up_self _ _ _
      have hT3 : pT G ad ze1 77 kE 9 (tset M i q (nI (ed_d xs ys i q))) := by rw [hn2]; exact hT.set (by omega)
      refine lv_iinc (k := 0) (v := (iv q)) hF.1 hF.2.1 d_E_measure_38 hl rfl (iinc_v q) (by decide) rfl (fun ls hl => ?_)
      have hl : lv_has ls 5 [(4, .int (iv q)), (3, .int (nI (i))), (0, .ref (ad (77))), (1, .ref (ad (k1))), (2, .ref (ad (k2)))] := hl
      refine lv_goto (tgt := 15) hF.1 hF.2.1 d_E_measure_41 (by decide) ?_
      refine ih i (tset M i q (nI (ed_d xs ys i q))) ze1 H locs ls hi (by omega) hT3 (fun r hr => ?_) (fun a b ha hb hc => ?_) (fun b hb hc => ?_) K hl hZ
      · rw [hn2, va_up_ne _ _ (by omega)]; exact hfr r hr
      · unfold tset; rw [if_neg (by omega)]; exact hM1 a b ha hb hc
      · unfold tset
        by_cases y : b = q
        · subst y; rw [if_pos ⟨rfl, rfl⟩]
        · rw [if_neg (fun u => y u.2)]; exact hM2 b (by omega) hc
  have outer : ∀ (q : Nat) (M : Nat → Nat → Int32) (en1 : Nat → va_E) (H : Heap) (locs : List Loc) (ls : Array Slot), q ≤ xs.length + 1 → (pT G ad en1 77 kE 9 M) → (∀ r, r < 77 ∨ 90 ≤ r → en1 r = en r) → (∀ a b, q ≤ a → a ≤ xs.length → b ≤ ys.length → M a b = nI (ed_d xs ys a b)) → lv_has ls 5 [(3, .int (iv q)), (0, .ref (ad (77))), (1, .ref (ad (k1))), (2, .ref (ad (k2)))] → zH G ad en1 N s H locs → W p l e (zR 3) s m ([.ref (ad (77)), .ref (ad (k1)), .ref (ad (k2))] : List Value).toArray below meth c H locs 0 0 (MQ below (zQi G ad N (fun v en1 => v = nI (ed_d xs ys 0 0) ∧ (∃ M1, pT G ad en1 77 kE 9 M1 ∧ ∀ a b, a ≤ xs.length → b ≤ ys.length → M1 a b = nI (ed_d xs ys a b)) ∧ ∀ r, r < 77 ∨ 90 ≤ r → en1 r = en r)) ([.ref (ad (77)), .ref (ad (k1)), .ref (ad (k2))] : List Value).toArray s 0 0 (zA G)) (F0 m 5 ls []) := by
    intro q
    induction q with
    | zero =>
      intro M en1 H locs ls hq hT hfr hM hl hZ
      have g0 := g.keep (hfr k1 r1) (hfr a1 r2)
      have h0 := h.keep (hfr k2 r3) (hfr a2 r4)
      have gg := g0
      obtain ⟨e1, g1, g26, f1, e2, g2⟩ := gg
      have hh := h0
      obtain ⟨e3, h1, h26, f2, e4, h2⟩ := hh
      have tt := hT
      obtain ⟨t1, ⟨tg, t2, t2g⟩, t3⟩ := tt
      refine lv_iload_n hF.1 hF.2.1 d_E_measure_5 rfl (lv_at hl 0 rfl) ?_
      refine lv_if_lt (tgt := 50) hF.1 hF.2.1 d_E_measure_6 (by decide) (fun _ => ?_) (fun h => absurd (show iv 0 < 0 by decide) h)
      refine lv_aload_n hF.1 hF.2.1 d_E_measure_50 rfl (lv_at hl 1 rfl) ?_
      refine gf_E_11 hF hZ (77) (by omega) t1 rfl d_E_measure_51 ?_
      refine lv_iconst (v := (nI (0))) hF.1 hF.2.1 d_E_measure_54 (by decide) ?_
      refine z_mald hF hZ (77 + 1) (by omega) t2 (0) (by omega) (by omega) (t2g (0) (by omega)) d_E_measure_55 ?_
      refine lv_iconst (v := (nI (0))) hF.1 hF.2.1 d_E_measure_56 (by decide) ?_
      refine z_iald hF hZ (77 + 2 + (0)) (by omega) (t3 (0) (by omega)) (0) (by omega) (by omega) d_E_measure_57 ?_
      exact z_iret hF hr hlocks hZ rfl ⟨hM 0 0 (by omega) (by omega) (by omega), ⟨M, hT, fun a b ha hb => hM a b (Nat.zero_le _) ha hb⟩, hfr⟩ d_E_measure_58
    | succ q ih =>
      intro M en1 H locs ls hq hT hfr hM hl hZ
      rw [iv_s] at hl
      have g0 := g.keep (hfr k1 r1) (hfr a1 r2)
      have h0 := h.keep (hfr k2 r3) (hfr a2 r4)
      have gg := g0
      obtain ⟨e1, g1, g26, f1, e2, g2⟩ := gg
      have hh := h0
      obtain ⟨e3, h1, h26, f2, e4, h2⟩ := hh
      have tt := hT
      obtain ⟨t1, ⟨tg, t2, t2g⟩, t3⟩ := tt
      refine lv_iload_n hF.1 hF.2.1 d_E_measure_5 rfl (lv_at hl 0 rfl) ?_
      refine lv_if_lt (tgt := 50) hF.1 hF.2.1 d_E_measure_6 (by decide) (fun h => absurd h (nI_pos (by omega))) (fun _ => ?_)
      refine lv_aload_n hF.1 hF.2.1 d_E_measure_9 rfl (lv_at hl 3 rfl) ?_
      refine gf_E_16 hF hZ (k2) hk2 e3 rfl d_E_measure_10 ?_
      refine lv_istore hF.1 hF.2.1 d_E_measure_13 hl (by decide) rfl (fun ls hl => ?_)
      have hl : lv_has ls 5 [(4, .int (nI (ys.length))), (3, .int (nI (q))), (0, .ref (ad (77))), (1, .ref (ad (k1))), (2, .ref (ad (k2)))] := hl
      refine inner (ys.length + 1) q M en1 H locs ls (by omega) (by omega) hT hfr (fun a b ha => hM a b ha) (fun b hb hc => absurd hc (by omega)) (fun M3 en3 H locs ls hT hfr hM3 hl hZ => ?_) (by rw [iv_s]; exact hl) hZ
      refine lv_iinc (k := 1) (v := (iv q)) hF.1 hF.2.1 d_E_measure_44 hl rfl (iinc_v q) (by decide) rfl (fun ls hl => ?_)
      have hl : lv_has ls 5 [(3, .int (iv q)), (4, .int (iv 0)), (0, .ref (ad (77))), (1, .ref (ad (k1))), (2, .ref (ad (k2)))] := hl
      refine lv_goto (tgt := 5) hF.1 hF.2.1 d_E_measure_47 (by decide) ?_
      have hl : lv_has ls 5 [(3, .int (iv q)), (0, .ref (ad (77))), (1, .ref (ad (k1))), (2, .ref (ad (k2)))] := lv_sub hl [0, 2, 3, 4] rfl
      exact ih M3 en3 H locs ls (by omega) hT hfr hM3 hl hZ
  have gg := g
  obtain ⟨e1, g1, g26, f1, e2, g2⟩ := gg
  have hh := h
  obtain ⟨e3, h1, h26, f2, e4, h2⟩ := hh
  refine lv_aload_n hF.1 hF.2.1 d_E_measure_0 rfl (lv_at hl 1 rfl) ?_
  refine gf_E_16 hF hZ (k1) hk1 e1 rfl d_E_measure_1 ?_
  refine lv_istore_n hF.1 hF.2.1 d_E_measure_4 rfl hl (by decide) rfl (fun ls hl => ?_)
  have hl : lv_has ls 5 [(3, .int (nI (xs.length))), (0, .ref (ad (77))), (1, .ref (ad (k1))), (2, .ref (ad (k2)))] := hl
  exact outer (xs.length + 1) M en _ _ ls (by omega) hT (fun _ _ => rfl) (fun a b ha hb => absurd hb (by omega)) (by rw [iv_s]; exact hl) hZ
set_option maxHeartbeats 4000000 in
set_option maxRecDepth 100000 in
theorem c_E_firstEdit (l : Launch) {G : zG} {ad : Nat → Nat} {en : Nat → va_E} {N : Nat} {k1 a1 c1 : Nat} {xs : List Nat} (hk1 : k1 < N) (ha1 : a1 < N) (hn1 : k1 ≠ a1) (hc1 : c1 < 2 ^ 31) (g : pL G ad en k1 a1 c1 xs) {k2 a2 c2 : Nat} {ys : List Nat} (hk2 : k2 < N) (ha2 : a2 < N) (hn2 : k2 ≠ a2) (hc2 : c2 < 2 ^ 31) (h : pL G ad en k2 a2 c2 ys) (hx : xs.length ≤ 10) (hy : ys.length ≤ 8) (hN : 90 ≤ N) {M : Nat → Nat → Int32} (hT : pT G ad en 77 kE 9 M) {i j : Nat} (hi : i ≤ xs.length) (hj : j ≤ ys.length) (hM : ∀ a b, a ≤ xs.length → b ≤ ys.length → M a b = nI (ed_d xs ys a b)) : zMi l y_E_firstEdit b_E_firstEdit 6 .int 2 G ad en N [.ref (ad (77)), .ref (ad (k1)), .int (nI (i)), .ref (ad (k2)), .int (nI (j))] (fun v en1 => en1 = en ∧ v = nI (ed_f xs ys i j)) := by
  have gg := g
  obtain ⟨e1, g1, g26, f1, e2, g2⟩ := gg
  have hh := h
  obtain ⟨e3, h1, h26, f2, e4, h2⟩ := hh
  have tt := hT
  obtain ⟨t1, ⟨tg, t2, t2g⟩, t3⟩ := tt
  refine z_met (by decide) (Nat.le_of_ble_eq_true rfl) ?_
  intro p e s m below meth c ls hF hr hlocks hnam hZ hl
  have hF : CallFix p m c b_E_firstEdit 6 s ([.ref (ad (77)), .ref (ad (k1)), .int (nI (i)), .ref (ad (k2)), .int (nI (j))] : List Value).toArray zz R_E := hF
  have hl : lv_has ls 6 [(0, .ref (ad (77))), (1, .ref (ad (k1))), (2, .int (nI (i))), (3, .ref (ad (k2))), (4, .int (nI (j)))] := hl
  refine lv_iload_n hF.1 hF.2.1 d_E_firstEdit_0 rfl (lv_at hl 2 rfl) ?_
  refine lv_aload_n hF.1 hF.2.1 d_E_firstEdit_1 rfl (lv_at hl 1 rfl) ?_
  refine gf_E_16 hF hZ (k1) hk1 e1 rfl d_E_firstEdit_2 ?_
  refine lv_icmp_ne (tgt := 10) hF.1 hF.2.1 d_E_firstEdit_5 (by decide) (fun q => ?_) (fun q => ?_)
  · have q : ¬ i = xs.length := fun z => q (by rw [z])
    refine lv_iload hF.1 hF.2.1 d_E_firstEdit_10 (lv_at hl 4 rfl) ?_
    refine lv_aload_n hF.1 hF.2.1 d_E_firstEdit_12 rfl (lv_at hl 3 rfl) ?_
    refine gf_E_16 hF hZ (k2) hk2 e3 rfl d_E_firstEdit_13 ?_
    refine lv_icmp_ne (tgt := 21) hF.1 hF.2.1 d_E_firstEdit_16 (by decide) (fun r => ?_) (fun r => ?_)
    · have r : ¬ j = ys.length := fun z => r (by rw [z])
      have b0 := ed_18 (xs := xs) (ys := ys) (i := i) (j := j) (by omega) (by omega) hx hy
      have b1 := ed_18 (xs := xs) (ys := ys) (i := i + 1) (j := j + 1) (by omega) (by omega) hx hy
      have b2 := ed_18 (xs := xs) (ys := ys) (i := i + 1) (j := j) (by omega) (by omega) hx hy
      have m0 := hM i j (by omega) (by omega)
      have m1 := hM (i + 1) (j + 1) (by omega) (by omega)
      have m2 := hM (i + 1) j (by omega) (by omega)
      refine lv_aload_n hF.1 hF.2.1 d_E_firstEdit_21 rfl (lv_at hl 1 rfl) ?_
      refine lv_iload_n hF.1 hF.2.1 d_E_firstEdit_22 rfl (lv_at hl 2 rfl) ?_
      refine z_calli hZ (z_run cw_E_33 hF hZ (k1) (c_L_atN l hk1 ha1 hn1 hc1 g (j := i) (by omega)) (by decide) hk1 e1 rfl rfl hl.1 rfl (Nat.le_of_ble_eq_true rfl) d_E_firstEdit_23) (fun v enq H locs hp hZ => ?_)
      obtain ⟨he, hv⟩ := hp
      subst hv
      have hZ := hZ.to he
      refine lv_aload_n hF.1 hF.2.1 d_E_firstEdit_26 rfl (lv_at hl 3 rfl) ?_
      refine lv_iload hF.1 hF.2.1 d_E_firstEdit_27 (lv_at hl 4 rfl) ?_
      refine z_calli hZ (z_run cw_E_33 hF hZ (k2) (c_L_atN l hk2 ha2 hn2 hc2 h (j := j) (by omega)) (by decide) hk2 e3 rfl rfl hl.1 rfl (Nat.le_of_ble_eq_true rfl) d_E_firstEdit_29) (fun v enq H locs hp hZ => ?_)
      obtain ⟨he, hv⟩ := hp
      subst hv
      have hZ := hZ.to he
      refine lv_icmp_ne (tgt := 39) hF.1 hF.2.1 d_E_firstEdit_32 (by decide) (fun u => ?_) (fun u => ?_)
      · have u : ¬ xs.getD i 0 = ys.getD j 0 := fun z => u (by rw [(cd_iff (by omega) (by omega)).mpr z])
        refine lv_iconst (v := (nI (0))) hF.1 hF.2.1 d_E_firstEdit_39 (by decide) ?_
        refine lv_istore hF.1 hF.2.1 d_E_firstEdit_40 hl (by decide) rfl (fun ls hl => ?_)
        have hl : lv_has ls 6 [(5, .int (nI (0))), (0, .ref (ad (77))), (1, .ref (ad (k1))), (2, .int (nI (i))), (3, .ref (ad (k2))), (4, .int (nI (j)))] := hl
        refine lv_iload hF.1 hF.2.1 d_E_firstEdit_42 (lv_at hl 0 rfl) ?_
        refine lv_if_eq (tgt := 74) hF.1 hF.2.1 d_E_firstEdit_44 (by decide) (fun _ => ?_) (fun h => absurd (show nI 0 = 0 by decide) h)
        refine lv_iload hF.1 hF.2.1 d_E_firstEdit_74 (lv_at hl 0 rfl) ?_
        refine lv_if_ne (tgt := 108) hF.1 hF.2.1 d_E_firstEdit_76 (by decide) (fun h => absurd (show nI 0 = 0 by decide) h) (fun _ => ?_)
        refine lv_aload_n hF.1 hF.2.1 d_E_firstEdit_79 rfl (lv_at hl 1 rfl) ?_
        refine gf_E_11 hF hZ (77) (by omega) t1 rfl d_E_firstEdit_80 ?_
        refine lv_iload_n hF.1 hF.2.1 d_E_firstEdit_83 rfl (lv_at hl 3 rfl) ?_
        refine z_mald hF hZ (77 + 1) (by omega) t2 (i) (by omega) (by omega) (t2g (i) (by omega)) d_E_firstEdit_84 ?_
        refine lv_iload hF.1 hF.2.1 d_E_firstEdit_85 (lv_at hl 5 rfl) ?_
        refine z_iald hF hZ (77 + 2 + (i)) (by omega) (t3 (i) (by omega)) (j) (by omega) (by omega) d_E_firstEdit_87 ?_
        refine z_top (y := (nI (ed_d xs ys i j))) m0 ?_
        refine lv_iconst (v := (nI (1))) hF.1 hF.2.1 d_E_firstEdit_88 (by decide) ?_
        refine lv_aload_n hF.1 hF.2.1 d_E_firstEdit_89 rfl (lv_at hl 1 rfl) ?_
        refine gf_E_11 hF hZ (77) (by omega) t1 rfl d_E_firstEdit_90 ?_
        refine lv_iload_n hF.1 hF.2.1 d_E_firstEdit_93 rfl (lv_at hl 3 rfl) ?_
        refine lv_iconst (v := (nI (1))) hF.1 hF.2.1 d_E_firstEdit_94 (by decide) ?_
        refine lv_iadd hF.1 hF.2.1 d_E_firstEdit_95 ?_
        refine z_top (nI_add (i) (1)) ?_
        refine z_mald hF hZ (77 + 1) (by omega) t2 (i + 1) (by omega) (by omega) (t2g (i + 1) (by omega)) d_E_firstEdit_96 ?_
        refine lv_iload hF.1 hF.2.1 d_E_firstEdit_97 (lv_at hl 5 rfl) ?_
        refine lv_iconst (v := (nI (1))) hF.1 hF.2.1 d_E_firstEdit_99 (by decide) ?_
        refine lv_iadd hF.1 hF.2.1 d_E_firstEdit_100 ?_
        refine z_top (nI_add (j) (1)) ?_
        refine z_iald hF hZ (77 + 2 + (i + 1)) (by omega) (t3 (i + 1) (by omega)) (j + 1) (by omega) (by omega) d_E_firstEdit_101 ?_
        refine z_top (y := (nI (ed_d xs ys (i + 1) (j + 1)))) m1 ?_
        refine lv_iadd hF.1 hF.2.1 d_E_firstEdit_102 ?_
        refine z_top (nI_add (1) (ed_d xs ys (i + 1) (j + 1))) ?_
        refine lv_icmp_ne (tgt := 108) hF.1 hF.2.1 d_E_firstEdit_103 (by decide) (fun s1 => ?_) (fun s1 => ?_)
        · have s1 : ¬ ed_d xs ys i j = 1 + ed_d xs ys (i + 1) (j + 1) := fun z => s1 (by rw [z])
          refine lv_aload_n hF.1 hF.2.1 d_E_firstEdit_108 rfl (lv_at hl 1 rfl) ?_
          refine gf_E_11 hF hZ (77) (by omega) t1 rfl d_E_firstEdit_109 ?_
          refine lv_iload_n hF.1 hF.2.1 d_E_firstEdit_112 rfl (lv_at hl 3 rfl) ?_
          refine z_mald hF hZ (77 + 1) (by omega) t2 (i) (by omega) (by omega) (t2g (i) (by omega)) d_E_firstEdit_113 ?_
          refine lv_iload hF.1 hF.2.1 d_E_firstEdit_114 (lv_at hl 5 rfl) ?_
          refine z_iald hF hZ (77 + 2 + (i)) (by omega) (t3 (i) (by omega)) (j) (by omega) (by omega) d_E_firstEdit_116 ?_
          refine z_top (y := (nI (ed_d xs ys i j))) m0 ?_
          refine lv_iconst (v := (nI (1))) hF.1 hF.2.1 d_E_firstEdit_117 (by decide) ?_
          refine lv_aload_n hF.1 hF.2.1 d_E_firstEdit_118 rfl (lv_at hl 1 rfl) ?_
          refine gf_E_11 hF hZ (77) (by omega) t1 rfl d_E_firstEdit_119 ?_
          refine lv_iload_n hF.1 hF.2.1 d_E_firstEdit_122 rfl (lv_at hl 3 rfl) ?_
          refine lv_iconst (v := (nI (1))) hF.1 hF.2.1 d_E_firstEdit_123 (by decide) ?_
          refine lv_iadd hF.1 hF.2.1 d_E_firstEdit_124 ?_
          refine z_top (nI_add (i) (1)) ?_
          refine z_mald hF hZ (77 + 1) (by omega) t2 (i + 1) (by omega) (by omega) (t2g (i + 1) (by omega)) d_E_firstEdit_125 ?_
          refine lv_iload hF.1 hF.2.1 d_E_firstEdit_126 (lv_at hl 5 rfl) ?_
          refine z_iald hF hZ (77 + 2 + (i + 1)) (by omega) (t3 (i + 1) (by omega)) (j) (by omega) (by omega) d_E_firstEdit_128 ?_
          refine z_top (y := (nI (ed_d xs ys (i + 1) j))) m2 ?_
          refine lv_iadd hF.1 hF.2.1 d_E_firstEdit_129 ?_
          refine z_top (nI_add (1) (ed_d xs ys (i + 1) j)) ?_
          refine lv_icmp_ne (tgt := 137) hF.1 hF.2.1 d_E_firstEdit_130 (by decide) (fun v => ?_) (fun v => ?_)
          · have v : ¬ ed_d xs ys i j = 1 + ed_d xs ys (i + 1) j := fun z => v (by rw [z])
            refine lv_iconst (v := (nI (3))) hF.1 hF.2.1 d_E_firstEdit_137 (by decide) ?_
            exact z_iret hF hr hlocks hZ rfl ⟨rfl, by unfold ed_f; rw [if_neg q, if_neg r, if_neg (fun z => u z.1), if_neg (fun z => s1 z.2), if_neg v]⟩ d_E_firstEdit_138
          · have v := (nI_eq (by omega) (by omega)).mp v
            refine lv_iconst (v := (nI (2))) hF.1 hF.2.1 d_E_firstEdit_133 (by decide) ?_
            refine lv_goto (tgt := 138) hF.1 hF.2.1 d_E_firstEdit_134 (by decide) ?_
            exact z_iret hF hr hlocks hZ rfl ⟨rfl, by unfold ed_f; rw [if_neg q, if_neg r, if_neg (fun z => u z.1), if_neg (fun z => s1 z.2), if_pos v]⟩ d_E_firstEdit_138
        · have s1 := (nI_eq (by omega) (by omega)).mp s1
          refine lv_iconst (v := (nI (1))) hF.1 hF.2.1 d_E_firstEdit_106 (by decide) ?_
          exact z_iret hF hr hlocks hZ rfl ⟨rfl, by unfold ed_f; rw [if_neg q, if_neg r, if_neg (fun z => u z.1), if_pos ⟨u, s1⟩]⟩ d_E_firstEdit_107
      · have u : xs.getD i 0 = ys.getD j 0 := (cd_iff (by omega) (by omega)).mp ((iv_eq (wd_cd_26 g26 i) (wd_cd_26 h26 j)).mp u)
        refine lv_iconst (v := (nI (1))) hF.1 hF.2.1 d_E_firstEdit_35 (by decide) ?_
        refine lv_goto (tgt := 40) hF.1 hF.2.1 d_E_firstEdit_36 (by decide) ?_
        refine lv_istore hF.1 hF.2.1 d_E_firstEdit_40 hl (by decide) rfl (fun ls hl => ?_)
        have hl : lv_has ls 6 [(5, .int (nI (1))), (0, .ref (ad (77))), (1, .ref (ad (k1))), (2, .int (nI (i))), (3, .ref (ad (k2))), (4, .int (nI (j)))] := hl
        refine lv_iload hF.1 hF.2.1 d_E_firstEdit_42 (lv_at hl 0 rfl) ?_
        refine lv_if_eq (tgt := 74) hF.1 hF.2.1 d_E_firstEdit_44 (by decide) (fun h => absurd h (show ¬ nI 1 = 0 by decide)) (fun _ => ?_)
        refine lv_aload_n hF.1 hF.2.1 d_E_firstEdit_47 rfl (lv_at hl 1 rfl) ?_
        refine gf_E_11 hF hZ (77) (by omega) t1 rfl d_E_firstEdit_48 ?_
        refine lv_iload_n hF.1 hF.2.1 d_E_firstEdit_51 rfl (lv_at hl 3 rfl) ?_
        refine z_mald hF hZ (77 + 1) (by omega) t2 (i) (by omega) (by omega) (t2g (i) (by omega)) d_E_firstEdit_52 ?_
        refine lv_iload hF.1 hF.2.1 d_E_firstEdit_53 (lv_at hl 5 rfl) ?_
        refine z_iald hF hZ (77 + 2 + (i)) (by omega) (t3 (i) (by omega)) (j) (by omega) (by omega) d_E_firstEdit_55 ?_
        refine z_top (y := (nI (ed_d xs ys i j))) m0 ?_
        refine lv_aload_n hF.1 hF.2.1 d_E_firstEdit_56 rfl (lv_at hl 1 rfl) ?_
        refine gf_E_11 hF hZ (77) (by omega) t1 rfl d_E_firstEdit_57 ?_
        refine lv_iload_n hF.1 hF.2.1 d_E_firstEdit_60 rfl (lv_at hl 3 rfl) ?_
        refine lv_iconst (v := (nI (1))) hF.1 hF.2.1 d_E_firstEdit_61 (by decide) ?_
        refine lv_iadd hF.1 hF.2.1 d_E_firstEdit_62 ?_
        refine z_top (nI_add (i) (1)) ?_
        refine z_mald hF hZ (77 + 1) (by omega) t2 (i + 1) (by omega) (by omega) (t2g (i + 1) (by omega)) d_E_firstEdit_63 ?_
        refine lv_iload hF.1 hF.2.1 d_E_firstEdit_64 (lv_at hl 5 rfl) ?_
        refine lv_iconst (v := (nI (1))) hF.1 hF.2.1 d_E_firstEdit_66 (by decide) ?_
        refine lv_iadd hF.1 hF.2.1 d_E_firstEdit_67 ?_
        refine z_top (nI_add (j) (1)) ?_
        refine z_iald hF hZ (77 + 2 + (i + 1)) (by omega) (t3 (i + 1) (by omega)) (j + 1) (by omega) (by omega) d_E_firstEdit_68 ?_
        refine z_top (y := (nI (ed_d xs ys (i + 1) (j + 1)))) m1 ?_
        refine lv_icmp_ne (tgt := 74) hF.1 hF.2.1 d_E_firstEdit_69 (by decide) (fun s1 => ?_) (fun s1 => ?_)
        · have s1 : ¬ ed_d xs ys i j = ed_d xs ys (i + 1) (j + 1) := fun z => s1 (by rw [z])
          refine lv_iload hF.1 hF.2.1 d_E_firstEdit_74 (lv_at hl 0 rfl) ?_
          refine lv_if_ne (tgt := 108) hF.1 hF.2.1 d_E_firstEdit_76 (by decide) (fun _ => ?_) (fun h => absurd h (show ¬ nI 1 = 0 by decide))
          refine lv_aload_n hF.1 hF.2.1 d_E_firstEdit_108 rfl (lv_at hl 1 rfl) ?_
          refine gf_E_11 hF hZ (77) (by omega) t1 rfl d_E_firstEdit_109 ?_
          refine lv_iload_n hF.1 hF.2.1 d_E_firstEdit_112 rfl (lv_at hl 3 rfl) ?_
          refine z_mald hF hZ (77 + 1) (by omega) t2 (i) (by omega) (by omega) (t2g (i) (by omega)) d_E_firstEdit_113 ?_
          refine lv_iload hF.1 hF.2.1 d_E_firstEdit_114 (lv_at hl 5 rfl) ?_
          refine z_iald hF hZ (77 + 2 + (i)) (by omega) (t3 (i) (by omega)) (j) (by omega) (by omega) d_E_firstEdit_116 ?_
          refine z_top (y := (nI (ed_d xs ys i j))) m0 ?_
          refine lv_iconst (v := (nI (1))) hF.1 hF.2.1 d_E_firstEdit_117 (by decide) ?_
          refine lv_aload_n hF.1 hF.2.1 d_E_firstEdit_118 rfl (lv_at hl 1 rfl) ?_
          refine gf_E_11 hF hZ (77) (by omega) t1 rfl d_E_firstEdit_119 ?_
          refine lv_iload_n hF.1 hF.2.1 d_E_firstEdit_122 rfl (lv_at hl 3 rfl) ?_
          refine lv_iconst (v := (nI (1))) hF.1 hF.2.1 d_E_firstEdit_123 (by decide) ?_
          refine lv_iadd hF.1 hF.2.1 d_E_firstEdit_124 ?_
          refine z_top (nI_add (i) (1)) ?_
          refine z_mald hF hZ (77 + 1) (by omega) t2 (i + 1) (by omega) (by omega) (t2g (i + 1) (by omega)) d_E_firstEdit_125 ?_
          refine lv_iload hF.1 hF.2.1 d_E_firstEdit_126 (lv_at hl 5 rfl) ?_
          refine z_iald hF hZ (77 + 2 + (i + 1)) (by omega) (t3 (i + 1) (by omega)) (j) (by omega) (by omega) d_E_firstEdit_128 ?_
          refine z_top (y := (nI (ed_d xs ys (i + 1) j))) m2 ?_
          refine lv_iadd hF.1 hF.2.1 d_E_firstEdit_129 ?_
          refine z_top (nI_add (1) (ed_d xs ys (i + 1) j)) ?_
          refine lv_icmp_ne (tgt := 137) hF.1 hF.2.1 d_E_firstEdit_130 (by decide) (fun v => ?_) (fun v => ?_)
          · have v : ¬ ed_d xs ys i j = 1 + ed_d xs ys (i + 1) j := fun z => v (by rw [z])
            refine lv_iconst (v := (nI (3))) hF.1 hF.2.1 d_E_firstEdit_137 (by decide) ?_
            exact z_iret hF hr hlocks hZ rfl ⟨rfl, by unfold ed_f; rw [if_neg q, if_neg r, if_neg (fun z => s1 z.2), if_neg (fun z => z.1 u), if_neg v]⟩ d_E_firstEdit_138
          · have v := (nI_eq (by omega) (by omega)).mp v
            refine lv_iconst (v := (nI (2))) hF.1 hF.2.1 d_E_firstEdit_133 (by decide) ?_
            refine lv_goto (tgt := 138) hF.1 hF.2.1 d_E_firstEdit_134 (by decide) ?_
            exact z_iret hF hr hlocks hZ rfl ⟨rfl, by unfold ed_f; rw [if_neg q, if_neg r, if_neg (fun z => s1 z.2), if_neg (fun z => z.1 u), if_pos v]⟩ d_E_firstEdit_138
        · have s1 := (nI_eq (by omega) (by omega)).mp s1
          refine lv_iconst (v := (nI (0))) hF.1 hF.2.1 d_E_firstEdit_72 (by decide) ?_
          exact z_iret hF hr hlocks hZ rfl ⟨rfl, by unfold ed_f; rw [if_neg q, if_neg r, if_pos ⟨u, s1⟩]⟩ d_E_firstEdit_73
    · have r : j = ys.length := (nI_eq (by omega) (by omega)).mp r
      refine lv_iconst (v := (nI (2))) hF.1 hF.2.1 d_E_firstEdit_19 (by decide) ?_
      exact z_iret hF hr hlocks hZ rfl ⟨rfl, by unfold ed_f; rw [if_neg q, if_pos r]⟩ d_E_firstEdit_20
  · have q : i = xs.length := (nI_eq (by omega) (by omega)).mp q
    refine lv_iconst (v := (nI (3))) hF.1 hF.2.1 d_E_firstEdit_8 (by decide) ?_
    exact z_iret hF hr hlocks hZ rfl ⟨rfl, by unfold ed_f; rw [if_pos q]⟩ d_E_firstEdit_9
/-- the edit at a place that is an int -/
def eav (xs ys : List Nat) (p : Int32) : Nat := if p < 0 then 0 else ed_at xs ys p.toNatClampNeg
theorem eav_0 {xs ys : List Nat} {p : Int32} {k : Nat} (hk : k < 2 ^ 31) (hno : ∀ j, j < k → p ≠ nI j) (h : ed_st xs ys k = (xs.length, ys.length)) : eav xs ys p = 0 := by
  unfold eav
  by_cases q : p < 0
  · rw [if_pos q]
  · obtain ⟨j, hj, rfl⟩ := nI_of q
    rw [if_neg q, nI_clamp hj]
    exact ed_at_end h (Nat.le_of_not_lt (fun z => hno j z rfl))
theorem eav_k {xs ys : List Nat} {k : Nat} (hk : k < 2 ^ 31) (h : ¬ ed_st xs ys k = (xs.length, ys.length)) : eav xs ys (nI k) = ed_f xs ys (ed_st xs ys k).1 (ed_st xs ys k).2 + 1 := by
  unfold eav; rw [if_neg (nI_pos hk), nI_clamp hk, ed_at, if_neg h]
set_option maxHeartbeats 4000000 in
set_option maxRecDepth 100000 in
theorem c_E_editAt (l : Launch) {G : zG} {ad : Nat → Nat} {en : Nat → va_E} {N : Nat} {k1 a1 c1 : Nat} {xs : List Nat} (hk1 : k1 < N) (ha1 : a1 < N) (hn1 : k1 ≠ a1) (hc1 : c1 < 2 ^ 31) (g : pL G ad en k1 a1 c1 xs) {k2 a2 c2 : Nat} {ys : List Nat} (hk2 : k2 < N) (ha2 : a2 < N) (hn2 : k2 ≠ a2) (hc2 : c2 < 2 ^ 31) (h : pL G ad en k2 a2 c2 ys) (hx : xs.length ≤ 10) (hy : ys.length ≤ 8) (hN : 90 ≤ N) {M : Nat → Nat → Int32} (hT : pT G ad en 77 kE 9 M) (r1 : k1 < 77 ∨ 90 ≤ k1) (r2 : a1 < 77 ∨ 90 ≤ a1) (r3 : k2 < 77 ∨ 90 ≤ k2) (r4 : a2 < 77 ∨ 90 ≤ a2) {p0 : Int32} : zMi l y_E_editAt b_E_editAt 8 .int 4 G ad en N [.ref (ad (77)), .ref (ad (k1)), .ref (ad (k2)), .int (p0)] (fun v en1 => v = iv (eav xs ys p0) ∧ (∃ M1, pT G ad en1 77 kE 9 M1) ∧ ∀ r, r < 77 ∨ 90 ≤ r → en1 r = en r) := by
  have gg := g
  obtain ⟨e1, g1, g26, f1, e2, g2⟩ := gg
  have hh := h
  obtain ⟨e3, h1, h26, f2, e4, h2⟩ := hh
  have tt := hT
  obtain ⟨t1, ⟨tg, t2, t2g⟩, t3⟩ := tt
  refine z_met (by decide) (Nat.le_of_ble_eq_true rfl) ?_
  intro p e s m below meth c ls hF hr hlocks hnam hZ hl
  have hF : CallFix p m c b_E_editAt 8 s ([.ref (ad (77)), .ref (ad (k1)), .ref (ad (k2)), .int (p0)] : List Value).toArray zz R_E := hF
  have hl : lv_has ls 8 [(0, .ref (ad (77))), (1, .ref (ad (k1))), (2, .ref (ad (k2))), (3, .int (p0))] := hl
  refine lv_aload_n hF.1 hF.2.1 d_E_editAt_0 rfl (lv_at hl 0 rfl) ?_
  refine lv_aload_n hF.1 hF.2.1 d_E_editAt_1 rfl (lv_at hl 1 rfl) ?_
  refine lv_aload_n hF.1 hF.2.1 d_E_editAt_2 rfl (lv_at hl 2 rfl) ?_
  refine z_calli hZ (z_run cw_E_26 hF hZ (77) (c_E_measure l hk1 ha1 hn1 hc1 g hk2 ha2 hn2 hc2 h hx hy hN hT r1 r2 r3 r4) (by decide) (by omega) t1 rfl rfl hl.1 rfl (Nat.le_of_ble_eq_true rfl) d_E_editAt_3) (fun v en1 H locs hq hZ => ?_)
  obtain ⟨-, ⟨M1, hT1, hM1⟩, hfr⟩ := hq
  have g0 := g.keep (hfr k1 r1) (hfr a1 r2)
  have h0 := h.keep (hfr k2 r3) (hfr a2 r4)
  have gg := g0
  obtain ⟨e1, g1, g26, f1, e2, g2⟩ := gg
  have hh := h0
  obtain ⟨e3, h1, h26, f2, e4, h2⟩ := hh
  have tt := hT1
  obtain ⟨t1, ⟨tg, t2, t2g⟩, t3⟩ := tt
  have loop : ∀ (n k : Nat) (H : Heap) (locs : List Loc) (ls : Array Slot), (k + n = 18) → (∀ j, j < k → p0 ≠ nI j) → lv_has ls 8 [(6, .int (nI (k))), (5, .int (nI ((ed_st xs ys k).2))), (4, .int (nI ((ed_st xs ys k).1))), (0, .ref (ad (77))), (1, .ref (ad (k1))), (2, .ref (ad (k2))), (3, .int (p0))] → zH G ad en1 N s H locs → W p l e (zR 4) s m ([.ref (ad (77)), .ref (ad (k1)), .ref (ad (k2)), .int (p0)] : List Value).toArray below meth c H locs 0 0 (MQ below (zQi G ad N (fun v en1 => v = iv (eav xs ys p0) ∧ (∃ M1, pT G ad en1 77 kE 9 M1) ∧ ∀ r, r < 77 ∨ 90 ≤ r → en1 r = en r)) ([.ref (ad (77)), .ref (ad (k1)), .ref (ad (k2)), .int (p0)] : List Value).toArray s 0 0 (zA G)) (F0 m 16 ls []) := by
    intro n
    induction n with
    | zero =>
      intro k H locs ls hin hno hl hZ
      refine lv_iload hF.1 hF.2.1 d_E_editAt_16 (lv_at hl 0 rfl) ?_
      refine lv_bipush (v := (nI (18))) hF.1 hF.2.1 d_E_editAt_18 (by decide) ?_
      refine lv_icmp_ge (tgt := 104) hF.1 hF.2.1 d_E_editAt_20 (by decide) (fun _ => ?_) (fun h => absurd (nI_le (by omega) (by omega)) h)
      refine lv_iconst (v := ((-1))) hF.1 hF.2.1 d_E_editAt_104 (by decide) ?_
      exact z_iret hF hr hlocks hZ rfl ⟨by rw [eav_0 (k := k) (by omega) hno (ed_st_end xs ys (by omega))]; exact iv_0.symm, ⟨M1, hT1⟩, hfr⟩ d_E_editAt_105
    | succ n ih =>
      intro k H locs ls hin hno hl hZ
      obtain ⟨s1, s2, -⟩ := ed_st_in xs ys k
      have hfl := ed_f_le xs ys (ed_st xs ys k).1 (ed_st xs ys k).2
      refine lv_iload hF.1 hF.2.1 d_E_editAt_16 (lv_at hl 0 rfl) ?_
      refine lv_bipush (v := (nI (18))) hF.1 hF.2.1 d_E_editAt_18 (by decide) ?_
      refine lv_icmp_ge (tgt := 104) hF.1 hF.2.1 d_E_editAt_20 (by decide) (fun h => absurd h (nI_ge (show k < 18 by omega) (by omega))) (fun _ => ?_)
      refine lv_iload hF.1 hF.2.1 d_E_editAt_23 (lv_at hl 2 rfl) ?_
      refine lv_aload_n hF.1 hF.2.1 d_E_editAt_25 rfl (lv_at hl 4 rfl) ?_
      refine gf_E_16 hF hZ (k1) hk1 e1 rfl d_E_editAt_26 ?_
      refine lv_icmp_ne (tgt := 43) hF.1 hF.2.1 d_E_editAt_29 (by decide) (fun q => ?_) (fun q => ?_)
      · have hne : ¬ ed_st xs ys k = (xs.length, ys.length) := fun z => q (by rw [z])
        have hst : ed_st xs ys (k + 1) = ed_mv (ed_f xs ys (ed_st xs ys k).1 (ed_st xs ys k).2) (ed_st xs ys k) := by rw [ed_st, if_neg hne]
        refine lv_aload_n hF.1 hF.2.1 d_E_editAt_43 rfl (lv_at hl 3 rfl) ?_
        refine lv_aload_n hF.1 hF.2.1 d_E_editAt_44 rfl (lv_at hl 4 rfl) ?_
        refine lv_iload hF.1 hF.2.1 d_E_editAt_45 (lv_at hl 2 rfl) ?_
        refine lv_aload_n hF.1 hF.2.1 d_E_editAt_47 rfl (lv_at hl 5 rfl) ?_
        refine lv_iload hF.1 hF.2.1 d_E_editAt_48 (lv_at hl 1 rfl) ?_
        refine z_calli hZ (z_run cw_E_30 hF hZ (77) (c_E_firstEdit l hk1 ha1 hn1 hc1 g0 hk2 ha2 hn2 hc2 h0 hx hy hN hT1 (i := (ed_st xs ys k).1) (j := (ed_st xs ys k).2) s1 s2 hM1) (by decide) (by omega) t1 rfl rfl hl.1 rfl (Nat.le_of_ble_eq_true rfl) d_E_editAt_50) (fun v enq H locs hp hZ => ?_)
        obtain ⟨he, hv⟩ := hp
        subst hv
        have hZ := hZ.to he
        refine lv_istore hF.1 hF.2.1 d_E_editAt_53 hl (by decide) rfl (fun ls hl => ?_)
        have hl : lv_has ls 8 [(7, .int (nI (ed_f xs ys (ed_st xs ys k).1 (ed_st xs ys k).2))), (6, .int (nI (k))), (5, .int (nI ((ed_st xs ys k).2))), (4, .int (nI ((ed_st xs ys k).1))), (0, .ref (ad (77))), (1, .ref (ad (k1))), (2, .ref (ad (k2))), (3, .int (p0))] := hl
        refine lv_iload hF.1 hF.2.1 d_E_editAt_55 (lv_at hl 1 rfl) ?_
        refine lv_iload_n hF.1 hF.2.1 d_E_editAt_57 rfl (lv_at hl 7 rfl) ?_
        refine lv_icmp_ne (tgt := 64) hF.1 hF.2.1 d_E_editAt_58 (by decide) (fun u => ?_) (fun u => ?_)
        · refine lv_iload hF.1 hF.2.1 d_E_editAt_64 (lv_at hl 0 rfl) ?_
          refine lv_iconst (v := (nI (3))) hF.1 hF.2.1 d_E_editAt_66 (by decide) ?_
          refine lv_icmp_ne (tgt := 75) hF.1 hF.2.1 d_E_editAt_67 (by decide) (fun x => ?_) (fun x => ?_)
          · have x : ¬ ed_f xs ys (ed_st xs ys k).1 (ed_st xs ys k).2 = 3 := fun z => x (by rw [z])
            refine lv_iload hF.1 hF.2.1 d_E_editAt_75 (lv_at hl 3 rfl) ?_
            refine lv_iconst (v := (nI (1))) hF.1 hF.2.1 d_E_editAt_77 (by decide) ?_
            refine lv_iadd hF.1 hF.2.1 d_E_editAt_78 ?_
            refine z_top (nI_add ((ed_st xs ys k).1) (1)) ?_
            refine lv_istore hF.1 hF.2.1 d_E_editAt_79 hl (by decide) rfl (fun ls hl => ?_)
            have hl : lv_has ls 8 [(4, .int (nI ((ed_st xs ys k).1 + 1))), (7, .int (nI (ed_f xs ys (ed_st xs ys k).1 (ed_st xs ys k).2))), (6, .int (nI (k))), (5, .int (nI ((ed_st xs ys k).2))), (0, .ref (ad (77))), (1, .ref (ad (k1))), (2, .ref (ad (k2))), (3, .int (p0))] := hl
            refine lv_iload hF.1 hF.2.1 d_E_editAt_81 (lv_at hl 1 rfl) ?_
            refine lv_iconst (v := (nI (2))) hF.1 hF.2.1 d_E_editAt_83 (by decide) ?_
            refine lv_icmp_ne (tgt := 92) hF.1 hF.2.1 d_E_editAt_84 (by decide) (fun y => ?_) (fun y => ?_)
            · have y : ¬ ed_f xs ys (ed_st xs ys k).1 (ed_st xs ys k).2 = 2 := fun z => y (by rw [z])
              refine lv_iload hF.1 hF.2.1 d_E_editAt_92 (lv_at hl 3 rfl) ?_
              refine lv_iconst (v := (nI (1))) hF.1 hF.2.1 d_E_editAt_94 (by decide) ?_
              refine lv_iadd hF.1 hF.2.1 d_E_editAt_95 ?_
              refine z_top (nI_add ((ed_st xs ys k).2) (1)) ?_
              refine lv_istore hF.1 hF.2.1 d_E_editAt_96 hl (by decide) rfl (fun ls hl => ?_)
              have hl : lv_has ls 8 [(5, .int (nI ((ed_st xs ys k).2 + 1))), (4, .int (nI ((ed_st xs ys k).1 + 1))), (7, .int (nI (ed_f xs ys (ed_st xs ys k).1 (ed_st xs ys k).2))), (6, .int (nI (k))), (0, .ref (ad (77))), (1, .ref (ad (k1))), (2, .ref (ad (k2))), (3, .int (p0))] := hl
              refine lv_iinc (k := 3) (v := (nI (k + 1))) hF.1 hF.2.1 d_E_editAt_98 hl rfl (iinc_p (k)) (by decide) rfl (fun ls hl => ?_)
              have hl : lv_has ls 8 [(6, .int (nI (k + 1))), (5, .int (nI ((ed_st xs ys k).2 + 1))), (4, .int (nI ((ed_st xs ys k).1 + 1))), (7, .int (nI (ed_f xs ys (ed_st xs ys k).1 (ed_st xs ys k).2))), (0, .ref (ad (77))), (1, .ref (ad (k1))), (2, .ref (ad (k2))), (3, .int (p0))] := hl
              refine lv_goto (tgt := 16) hF.1 hF.2.1 d_E_editAt_101 (by decide) ?_
              refine ih (k + 1) H locs ls (by omega) (fun j hj => ?_) ?_ hZ
              · by_cases e : j = k
                · subst e; exact fun z => u z.symm
                · exact hno j (by omega)
              · rw [hst]; unfold ed_mv; simp only [if_neg x, if_neg y]; exact lv_sub hl [0, 1, 2, 4, 5, 6, 7] rfl
            · have y := (nI_eq (by omega) (by omega)).mp y
              refine lv_iload hF.1 hF.2.1 d_E_editAt_87 (lv_at hl 3 rfl) ?_
              refine lv_goto (tgt := 96) hF.1 hF.2.1 d_E_editAt_89 (by decide) ?_
              refine lv_istore hF.1 hF.2.1 d_E_editAt_96 hl (by decide) rfl (fun ls hl => ?_)
              have hl : lv_has ls 8 [(5, .int (nI ((ed_st xs ys k).2))), (4, .int (nI ((ed_st xs ys k).1 + 1))), (7, .int (nI (ed_f xs ys (ed_st xs ys k).1 (ed_st xs ys k).2))), (6, .int (nI (k))), (0, .ref (ad (77))), (1, .ref (ad (k1))), (2, .ref (ad (k2))), (3, .int (p0))] := hl
              refine lv_iinc (k := 3) (v := (nI (k + 1))) hF.1 hF.2.1 d_E_editAt_98 hl rfl (iinc_p (k)) (by decide) rfl (fun ls hl => ?_)
              have hl : lv_has ls 8 [(6, .int (nI (k + 1))), (5, .int (nI ((ed_st xs ys k).2))), (4, .int (nI ((ed_st xs ys k).1 + 1))), (7, .int (nI (ed_f xs ys (ed_st xs ys k).1 (ed_st xs ys k).2))), (0, .ref (ad (77))), (1, .ref (ad (k1))), (2, .ref (ad (k2))), (3, .int (p0))] := hl
              refine lv_goto (tgt := 16) hF.1 hF.2.1 d_E_editAt_101 (by decide) ?_
              refine ih (k + 1) H locs ls (by omega) (fun j hj => ?_) ?_ hZ
              · by_cases e : j = k
                · subst e; exact fun z => u z.symm
                · exact hno j (by omega)
              · rw [hst]; unfold ed_mv; simp only [if_neg x, if_pos y]; exact lv_sub hl [0, 1, 2, 4, 5, 6, 7] rfl
          · have x := (nI_eq (by omega) (by omega)).mp x
            refine lv_iload hF.1 hF.2.1 d_E_editAt_70 (lv_at hl 3 rfl) ?_
            refine lv_goto (tgt := 79) hF.1 hF.2.1 d_E_editAt_72 (by decide) ?_
            refine lv_istore hF.1 hF.2.1 d_E_editAt_79 hl (by decide) rfl (fun ls hl => ?_)
            have hl : lv_has ls 8 [(4, .int (nI ((ed_st xs ys k).1))), (7, .int (nI (ed_f xs ys (ed_st xs ys k).1 (ed_st xs ys k).2))), (6, .int (nI (k))), (5, .int (nI ((ed_st xs ys k).2))), (0, .ref (ad (77))), (1, .ref (ad (k1))), (2, .ref (ad (k2))), (3, .int (p0))] := hl
            refine lv_iload hF.1 hF.2.1 d_E_editAt_81 (lv_at hl 1 rfl) ?_
            refine lv_iconst (v := (nI (2))) hF.1 hF.2.1 d_E_editAt_83 (by decide) ?_
            refine lv_icmp_ne (tgt := 92) hF.1 hF.2.1 d_E_editAt_84 (by decide) (fun y => ?_) (fun y => ?_)
            · have y : ¬ ed_f xs ys (ed_st xs ys k).1 (ed_st xs ys k).2 = 2 := fun z => y (by rw [z])
              refine lv_iload hF.1 hF.2.1 d_E_editAt_92 (lv_at hl 3 rfl) ?_
              refine lv_iconst (v := (nI (1))) hF.1 hF.2.1 d_E_editAt_94 (by decide) ?_
              refine lv_iadd hF.1 hF.2.1 d_E_editAt_95 ?_
              refine z_top (nI_add ((ed_st xs ys k).2) (1)) ?_
              refine lv_istore hF.1 hF.2.1 d_E_editAt_96 hl (by decide) rfl (fun ls hl => ?_)
              have hl : lv_has ls 8 [(5, .int (nI ((ed_st xs ys k).2 + 1))), (4, .int (nI ((ed_st xs ys k).1))), (7, .int (nI (ed_f xs ys (ed_st xs ys k).1 (ed_st xs ys k).2))), (6, .int (nI (k))), (0, .ref (ad (77))), (1, .ref (ad (k1))), (2, .ref (ad (k2))), (3, .int (p0))] := hl
              refine lv_iinc (k := 3) (v := (nI (k + 1))) hF.1 hF.2.1 d_E_editAt_98 hl rfl (iinc_p (k)) (by decide) rfl (fun ls hl => ?_)
              have hl : lv_has ls 8 [(6, .int (nI (k + 1))), (5, .int (nI ((ed_st xs ys k).2 + 1))), (4, .int (nI ((ed_st xs ys k).1))), (7, .int (nI (ed_f xs ys (ed_st xs ys k).1 (ed_st xs ys k).2))), (0, .ref (ad (77))), (1, .ref (ad (k1))), (2, .ref (ad (k2))), (3, .int (p0))] := hl
              refine lv_goto (tgt := 16) hF.1 hF.2.1 d_E_editAt_101 (by decide) ?_
              refine ih (k + 1) H locs ls (by omega) (fun j hj => ?_) ?_ hZ
              · by_cases e : j = k
                · subst e; exact fun z => u z.symm
                · exact hno j (by omega)
              · rw [hst]; unfold ed_mv; simp only [if_pos x, if_neg y]; exact lv_sub hl [0, 1, 2, 4, 5, 6, 7] rfl
            · have y := (nI_eq (by omega) (by omega)).mp y
              refine lv_iload hF.1 hF.2.1 d_E_editAt_87 (lv_at hl 3 rfl) ?_
              refine lv_goto (tgt := 96) hF.1 hF.2.1 d_E_editAt_89 (by decide) ?_
              refine lv_istore hF.1 hF.2.1 d_E_editAt_96 hl (by decide) rfl (fun ls hl => ?_)
              have hl : lv_has ls 8 [(5, .int (nI ((ed_st xs ys k).2))), (4, .int (nI ((ed_st xs ys k).1))), (7, .int (nI (ed_f xs ys (ed_st xs ys k).1 (ed_st xs ys k).2))), (6, .int (nI (k))), (0, .ref (ad (77))), (1, .ref (ad (k1))), (2, .ref (ad (k2))), (3, .int (p0))] := hl
              refine lv_iinc (k := 3) (v := (nI (k + 1))) hF.1 hF.2.1 d_E_editAt_98 hl rfl (iinc_p (k)) (by decide) rfl (fun ls hl => ?_)
              have hl : lv_has ls 8 [(6, .int (nI (k + 1))), (5, .int (nI ((ed_st xs ys k).2))), (4, .int (nI ((ed_st xs ys k).1))), (7, .int (nI (ed_f xs ys (ed_st xs ys k).1 (ed_st xs ys k).2))), (0, .ref (ad (77))), (1, .ref (ad (k1))), (2, .ref (ad (k2))), (3, .int (p0))] := hl
              refine lv_goto (tgt := 16) hF.1 hF.2.1 d_E_editAt_101 (by decide) ?_
              refine ih (k + 1) H locs ls (by omega) (fun j hj => ?_) ?_ hZ
              · by_cases e : j = k
                · subst e; exact fun z => u z.symm
                · exact hno j (by omega)
              · rw [hst]; unfold ed_mv; simp only [if_pos x, if_pos y]; exact lv_sub hl [0, 1, 2, 4, 5, 6, 7] rfl
        · refine lv_iload hF.1 hF.2.1 d_E_editAt_61 (lv_at hl 0 rfl) ?_
          exact z_iret hF hr hlocks hZ rfl ⟨by rw [← u, eav_k (by omega) hne, iv_s], ⟨M1, hT1⟩, hfr⟩ d_E_editAt_63
      · have q := (nI_eq (by omega) (by omega)).mp q
        refine lv_iload hF.1 hF.2.1 d_E_editAt_32 (lv_at hl 1 rfl) ?_
        refine lv_aload_n hF.1 hF.2.1 d_E_editAt_34 rfl (lv_at hl 5 rfl) ?_
        refine gf_E_16 hF hZ (k2) hk2 e3 rfl d_E_editAt_35 ?_
        refine lv_icmp_ne (tgt := 43) hF.1 hF.2.1 d_E_editAt_38 (by decide) (fun r => ?_) (fun r => ?_)
        · have hne : ¬ ed_st xs ys k = (xs.length, ys.length) := fun z => r (by rw [z])
          have hst : ed_st xs ys (k + 1) = ed_mv (ed_f xs ys (ed_st xs ys k).1 (ed_st xs ys k).2) (ed_st xs ys k) := by rw [ed_st, if_neg hne]
          refine lv_aload_n hF.1 hF.2.1 d_E_editAt_43 rfl (lv_at hl 3 rfl) ?_
          refine lv_aload_n hF.1 hF.2.1 d_E_editAt_44 rfl (lv_at hl 4 rfl) ?_
          refine lv_iload hF.1 hF.2.1 d_E_editAt_45 (lv_at hl 2 rfl) ?_
          refine lv_aload_n hF.1 hF.2.1 d_E_editAt_47 rfl (lv_at hl 5 rfl) ?_
          refine lv_iload hF.1 hF.2.1 d_E_editAt_48 (lv_at hl 1 rfl) ?_
          refine z_calli hZ (z_run cw_E_30 hF hZ (77) (c_E_firstEdit l hk1 ha1 hn1 hc1 g0 hk2 ha2 hn2 hc2 h0 hx hy hN hT1 (i := (ed_st xs ys k).1) (j := (ed_st xs ys k).2) s1 s2 hM1) (by decide) (by omega) t1 rfl rfl hl.1 rfl (Nat.le_of_ble_eq_true rfl) d_E_editAt_50) (fun v enq H locs hp hZ => ?_)
          obtain ⟨he, hv⟩ := hp
          subst hv
          have hZ := hZ.to he
          refine lv_istore hF.1 hF.2.1 d_E_editAt_53 hl (by decide) rfl (fun ls hl => ?_)
          have hl : lv_has ls 8 [(7, .int (nI (ed_f xs ys (ed_st xs ys k).1 (ed_st xs ys k).2))), (6, .int (nI (k))), (5, .int (nI ((ed_st xs ys k).2))), (4, .int (nI ((ed_st xs ys k).1))), (0, .ref (ad (77))), (1, .ref (ad (k1))), (2, .ref (ad (k2))), (3, .int (p0))] := hl
          refine lv_iload hF.1 hF.2.1 d_E_editAt_55 (lv_at hl 1 rfl) ?_
          refine lv_iload_n hF.1 hF.2.1 d_E_editAt_57 rfl (lv_at hl 7 rfl) ?_
          refine lv_icmp_ne (tgt := 64) hF.1 hF.2.1 d_E_editAt_58 (by decide) (fun u => ?_) (fun u => ?_)
          · refine lv_iload hF.1 hF.2.1 d_E_editAt_64 (lv_at hl 0 rfl) ?_
            refine lv_iconst (v := (nI (3))) hF.1 hF.2.1 d_E_editAt_66 (by decide) ?_
            refine lv_icmp_ne (tgt := 75) hF.1 hF.2.1 d_E_editAt_67 (by decide) (fun x => ?_) (fun x => ?_)
            · have x : ¬ ed_f xs ys (ed_st xs ys k).1 (ed_st xs ys k).2 = 3 := fun z => x (by rw [z])
              refine lv_iload hF.1 hF.2.1 d_E_editAt_75 (lv_at hl 3 rfl) ?_
              refine lv_iconst (v := (nI (1))) hF.1 hF.2.1 d_E_editAt_77 (by decide) ?_
              refine lv_iadd hF.1 hF.2.1 d_E_editAt_78 ?_
              refine z_top (nI_add ((ed_st xs ys k).1) (1)) ?_
              refine lv_istore hF.1 hF.2.1 d_E_editAt_79 hl (by decide) rfl (fun ls hl => ?_)
              have hl : lv_has ls 8 [(4, .int (nI ((ed_st xs ys k).1 + 1))), (7, .int (nI (ed_f xs ys (ed_st xs ys k).1 (ed_st xs ys k).2))), (6, .int (nI (k))), (5, .int (nI ((ed_st xs ys k).2))), (0, .ref (ad (77))), (1, .ref (ad (k1))), (2, .ref (ad (k2))), (3, .int (p0))] := hl
              refine lv_iload hF.1 hF.2.1 d_E_editAt_81 (lv_at hl 1 rfl) ?_
              refine lv_iconst (v := (nI (2))) hF.1 hF.2.1 d_E_editAt_83 (by decide) ?_
              refine lv_icmp_ne (tgt := 92) hF.1 hF.2.1 d_E_editAt_84 (by decide) (fun y => ?_) (fun y => ?_)
              · have y : ¬ ed_f xs ys (ed_st xs ys k).1 (ed_st xs ys k).2 = 2 := fun z => y (by rw [z])
                refine lv_iload hF.1 hF.2.1 d_E_editAt_92 (lv_at hl 3 rfl) ?_
                refine lv_iconst (v := (nI (1))) hF.1 hF.2.1 d_E_editAt_94 (by decide) ?_
                refine lv_iadd hF.1 hF.2.1 d_E_editAt_95 ?_
                refine z_top (nI_add ((ed_st xs ys k).2) (1)) ?_
                refine lv_istore hF.1 hF.2.1 d_E_editAt_96 hl (by decide) rfl (fun ls hl => ?_)
                have hl : lv_has ls 8 [(5, .int (nI ((ed_st xs ys k).2 + 1))), (4, .int (nI ((ed_st xs ys k).1 + 1))), (7, .int (nI (ed_f xs ys (ed_st xs ys k).1 (ed_st xs ys k).2))), (6, .int (nI (k))), (0, .ref (ad (77))), (1, .ref (ad (k1))), (2, .ref (ad (k2))), (3, .int (p0))] := hl
                refine lv_iinc (k := 3) (v := (nI (k + 1))) hF.1 hF.2.1 d_E_editAt_98 hl rfl (iinc_p (k)) (by decide) rfl (fun ls hl => ?_)
                have hl : lv_has ls 8 [(6, .int (nI (k + 1))), (5, .int (nI ((ed_st xs ys k).2 + 1))), (4, .int (nI ((ed_st xs ys k).1 + 1))), (7, .int (nI (ed_f xs ys (ed_st xs ys k).1 (ed_st xs ys k).2))), (0, .ref (ad (77))), (1, .ref (ad (k1))), (2, .ref (ad (k2))), (3, .int (p0))] := hl
                refine lv_goto (tgt := 16) hF.1 hF.2.1 d_E_editAt_101 (by decide) ?_
                refine ih (k + 1) H locs ls (by omega) (fun j hj => ?_) ?_ hZ
                · by_cases e : j = k
                  · subst e; exact fun z => u z.symm
                  · exact hno j (by omega)
                · rw [hst]; unfold ed_mv; simp only [if_neg x, if_neg y]; exact lv_sub hl [0, 1, 2, 4, 5, 6, 7] rfl
              · have y := (nI_eq (by omega) (by omega)).mp y
                refine lv_iload hF.1 hF.2.1 d_E_editAt_87 (lv_at hl 3 rfl) ?_
                refine lv_goto (tgt := 96) hF.1 hF.2.1 d_E_editAt_89 (by decide) ?_
                refine lv_istore hF.1 hF.2.1 d_E_editAt_96 hl (by decide) rfl (fun ls hl => ?_)
                have hl : lv_has ls 8 [(5, .int (nI ((ed_st xs ys k).2))), (4, .int (nI ((ed_st xs ys k).1 + 1))), (7, .int (nI (ed_f xs ys (ed_st xs ys k).1 (ed_st xs ys k).2))), (6, .int (nI (k))), (0, .ref (ad (77))), (1, .ref (ad (k1))), (2, .ref (ad (k2))), (3, .int (p0))] := hl
                refine lv_iinc (k := 3) (v := (nI (k + 1))) hF.1 hF.2.1 d_E_editAt_98 hl rfl (iinc_p (k)) (by decide) rfl (fun ls hl => ?_)
                have hl : lv_has ls 8 [(6, .int (nI (k + 1))), (5, .int (nI ((ed_st xs ys k).2))), (4, .int (nI ((ed_st xs ys k).1 + 1))), (7, .int (nI (ed_f xs ys (ed_st xs ys k).1 (ed_st xs ys k).2))), (0, .ref (ad (77))), (1, .ref (ad (k1))), (2, .ref (ad (k2))), (3, .int (p0))] := hl
                refine lv_goto (tgt := 16) hF.1 hF.2.1 d_E_editAt_101 (by decide) ?_
                refine ih (k + 1) H locs ls (by omega) (fun j hj => ?_) ?_ hZ
                · by_cases e : j = k
                  · subst e; exact fun z => u z.symm
                  · exact hno j (by omega)
                · rw [hst]; unfold ed_mv; simp only [if_neg x, if_pos y]; exact lv_sub hl [0, 1, 2, 4, 5, 6, 7] rfl
            · have x := (nI_eq (by omega) (by omega)).mp x
              refine lv_iload hF.1 hF.2.1 d_E_editAt_70 (lv_at hl 3 rfl) ?_
              refine lv_goto (tgt := 79) hF.1 hF.2.1 d_E_editAt_72 (by decide) ?_
              refine lv_istore hF.1 hF.2.1 d_E_editAt_79 hl (by decide) rfl (fun ls hl => ?_)
              have hl : lv_has ls 8 [(4, .int (nI ((ed_st xs ys k).1))), (7, .int (nI (ed_f xs ys (ed_st xs ys k).1 (ed_st xs ys k).2))), (6, .int (nI (k))), (5, .int (nI ((ed_st xs ys k).2))), (0, .ref (ad (77))), (1, .ref (ad (k1))), (2, .ref (ad (k2))), (3, .int (p0))] := hl
              refine lv_iload hF.1 hF.2.1 d_E_editAt_81 (lv_at hl 1 rfl) ?_
              refine lv_iconst (v := (nI (2))) hF.1 hF.2.1 d_E_editAt_83 (by decide) ?_
              refine lv_icmp_ne (tgt := 92) hF.1 hF.2.1 d_E_editAt_84 (by decide) (fun y => ?_) (fun y => ?_)
              · have y : ¬ ed_f xs ys (ed_st xs ys k).1 (ed_st xs ys k).2 = 2 := fun z => y (by rw [z])
                refine lv_iload hF.1 hF.2.1 d_E_editAt_92 (lv_at hl 3 rfl) ?_
                refine lv_iconst (v := (nI (1))) hF.1 hF.2.1 d_E_editAt_94 (by decide) ?_
                refine lv_iadd hF.1 hF.2.1 d_E_editAt_95 ?_
                refine z_top (nI_add ((ed_st xs ys k).2) (1)) ?_
                refine lv_istore hF.1 hF.2.1 d_E_editAt_96 hl (by decide) rfl (fun ls hl => ?_)
                have hl : lv_has ls 8 [(5, .int (nI ((ed_st xs ys k).2 + 1))), (4, .int (nI ((ed_st xs ys k).1))), (7, .int (nI (ed_f xs ys (ed_st xs ys k).1 (ed_st xs ys k).2))), (6, .int (nI (k))), (0, .ref (ad (77))), (1, .ref (ad (k1))), (2, .ref (ad (k2))), (3, .int (p0))] := hl
                refine lv_iinc (k := 3) (v := (nI (k + 1))) hF.1 hF.2.1 d_E_editAt_98 hl rfl (iinc_p (k)) (by decide) rfl (fun ls hl => ?_)
                have hl : lv_has ls 8 [(6, .int (nI (k + 1))), (5, .int (nI ((ed_st xs ys k).2 + 1))), (4, .int (nI ((ed_st xs ys k).1))), (7, .int (nI (ed_f xs ys (ed_st xs ys k).1 (ed_st xs ys k).2))), (0, .ref (ad (77))), (1, .ref (ad (k1))), (2, .ref (ad (k2))), (3, .int (p0))] := hl
                refine lv_goto (tgt := 16) hF.1 hF.2.1 d_E_editAt_101 (by decide) ?_
                refine ih (k + 1) H locs ls (by omega) (fun j hj => ?_) ?_ hZ
                · by_cases e : j = k
                  · subst e; exact fun z => u z.symm
                  · exact hno j (by omega)
                · rw [hst]; unfold ed_mv; simp only [if_pos x, if_neg y]; exact lv_sub hl [0, 1, 2, 4, 5, 6, 7] rfl
              · have y := (nI_eq (by omega) (by omega)).mp y
                refine lv_iload hF.1 hF.2.1 d_E_editAt_87 (lv_at hl 3 rfl) ?_
                refine lv_goto (tgt := 96) hF.1 hF.2.1 d_E_editAt_89 (by decide) ?_
                refine lv_istore hF.1 hF.2.1 d_E_editAt_96 hl (by decide) rfl (fun ls hl => ?_)
                have hl : lv_has ls 8 [(5, .int (nI ((ed_st xs ys k).2))), (4, .int (nI ((ed_st xs ys k).1))), (7, .int (nI (ed_f xs ys (ed_st xs ys k).1 (ed_st xs ys k).2))), (6, .int (nI (k))), (0, .ref (ad (77))), (1, .ref (ad (k1))), (2, .ref (ad (k2))), (3, .int (p0))] := hl
                refine lv_iinc (k := 3) (v := (nI (k + 1))) hF.1 hF.2.1 d_E_editAt_98 hl rfl (iinc_p (k)) (by decide) rfl (fun ls hl => ?_)
                have hl : lv_has ls 8 [(6, .int (nI (k + 1))), (5, .int (nI ((ed_st xs ys k).2))), (4, .int (nI ((ed_st xs ys k).1))), (7, .int (nI (ed_f xs ys (ed_st xs ys k).1 (ed_st xs ys k).2))), (0, .ref (ad (77))), (1, .ref (ad (k1))), (2, .ref (ad (k2))), (3, .int (p0))] := hl
                refine lv_goto (tgt := 16) hF.1 hF.2.1 d_E_editAt_101 (by decide) ?_
                refine ih (k + 1) H locs ls (by omega) (fun j hj => ?_) ?_ hZ
                · by_cases e : j = k
                  · subst e; exact fun z => u z.symm
                  · exact hno j (by omega)
                · rw [hst]; unfold ed_mv; simp only [if_pos x, if_pos y]; exact lv_sub hl [0, 1, 2, 4, 5, 6, 7] rfl
          · refine lv_iload hF.1 hF.2.1 d_E_editAt_61 (lv_at hl 0 rfl) ?_
            exact z_iret hF hr hlocks hZ rfl ⟨by rw [← u, eav_k (by omega) hne, iv_s], ⟨M1, hT1⟩, hfr⟩ d_E_editAt_63
        · have r := (nI_eq (by omega) (by omega)).mp r
          refine lv_iconst (v := ((-1))) hF.1 hF.2.1 d_E_editAt_41 (by decide) ?_
          exact z_iret hF hr hlocks hZ rfl ⟨by rw [eav_0 (k := k) (by omega) hno (Prod.ext q r)]; exact iv_0.symm, ⟨M1, hT1⟩, hfr⟩ d_E_editAt_42
  refine lv_pop hF.1 hF.2.1 d_E_editAt_6 rfl ?_
  refine lv_iconst (v := (nI (0))) hF.1 hF.2.1 d_E_editAt_7 (by decide) ?_
  refine lv_istore hF.1 hF.2.1 d_E_editAt_8 hl (by decide) rfl (fun ls hl => ?_)
  have hl : lv_has ls 8 [(4, .int (nI (0))), (0, .ref (ad (77))), (1, .ref (ad (k1))), (2, .ref (ad (k2))), (3, .int (p0))] := hl
  refine lv_iconst (v := (nI (0))) hF.1 hF.2.1 d_E_editAt_10 (by decide) ?_
  refine lv_istore hF.1 hF.2.1 d_E_editAt_11 hl (by decide) rfl (fun ls hl => ?_)
  have hl : lv_has ls 8 [(5, .int (nI (0))), (4, .int (nI (0))), (0, .ref (ad (77))), (1, .ref (ad (k1))), (2, .ref (ad (k2))), (3, .int (p0))] := hl
  refine lv_iconst (v := (nI (0))) hF.1 hF.2.1 d_E_editAt_13 (by decide) ?_
  refine lv_istore hF.1 hF.2.1 d_E_editAt_14 hl (by decide) rfl (fun ls hl => ?_)
  have hl : lv_has ls 8 [(6, .int (nI (0))), (5, .int (nI (0))), (4, .int (nI (0))), (0, .ref (ad (77))), (1, .ref (ad (k1))), (2, .ref (ad (k2))), (3, .int (p0))] := hl
  exact loop 18 0 _ _ ls (by omega) (fun j hj => absurd hj (Nat.not_lt_zero _)) hl hZ
