def px_t (j i k : Nat) : Nat := if j ≤ k ∧ k < i then k + 1 else k
theorem px_s1 {n p k : Nat} : px_s n (p + k + 1) (p + k) = p + k := by unfold px_s; rw [if_neg (by omega)]
theorem px_s2 {n p k : Nat} (h : p + k + 1 ≤ n) : px_s n (p + k) (p + k + 1) = p + k := by unfold px_s; rw [if_pos (by omega)]; omega
theorem px_s3 {n q i : Nat} (h : i ≠ q + 1) : px_s n (q + 1) i = px_s n q i := by
  unfold px_s
  by_cases a : q + 1 < i ∧ i ≤ n
  · rw [if_pos a, if_pos (by omega)]
  · rw [if_neg a, if_neg (by omega)]
theorem px_s4 {n i : Nat} : px_s n n i = i := by unfold px_s; rw [if_neg (by omega)]
theorem px_i1 {n p : Nat} : px_i n p p = n := by unfold px_i; rw [if_neg (by omega), if_pos rfl]
theorem px_i2 {n p i : Nat} (h : i ≠ p) : px_i n p i = px_s n p i := by
  unfold px_i px_s
  by_cases a : i < p
  · rw [if_pos a, if_neg (by omega)]
  · rw [if_neg a, if_neg h]
    by_cases b : i ≤ n
    · rw [if_pos b, if_pos (by omega)]
    · rw [if_neg b, if_neg (by omega)]
theorem px_t0 {j i : Nat} : px_t j j i = i := by unfold px_t; rw [if_neg (by omega)]
theorem px_t1 {j i : Nat} : px_t j i (i + 1) = i + 1 := by unfold px_t; rw [if_neg (by omega)]
theorem px_t2 {j i : Nat} (h : j ≤ i) : px_t j (i + 1) i = i + 1 := by unfold px_t; rw [if_pos (by omega)]
theorem px_t3 {j i k : Nat} (h : k ≠ i) : px_t j (i + 1) k = px_t j i k := by
  unfold px_t
  by_cases a : j ≤ k ∧ k < i
  · rw [if_pos a, if_pos (by omega)]
  · rw [if_neg a, if_neg (by omega)]
theorem px_r1 {n j : Nat} (h : j < n) : px_r n j (n - 1) = j := by
  unfold px_r
  by_cases a : n - 1 < j
  · omega
  · rw [if_neg a, if_neg (by omega), if_pos (by omega)]
theorem px_r2 {n j k : Nat} (hj : j < n) (h : k ≠ n - 1) : px_r n j k = px_t j (n - 1) k := by
  unfold px_r px_t
  by_cases a : k < j
  · rw [if_pos a, if_neg (by omega)]
  · rw [if_neg a]
    by_cases b : k + 1 < n
    · rw [if_pos b, if_pos (by omega)]
    · rw [if_neg b, if_neg (by omega), if_neg (by omega)]
set_option maxHeartbeats 4000000 in
set_option maxRecDepth 100000 in
theorem c_D_insertNo (l : Launch) {G : zG} {ad : Nat → Nat} {en : Nat → va_E} {N : Nat} {sg : Nat → Nat} {C : List wd_W} (hN : 77 ≤ N) (h : pD G ad en sg C) {k2 ka2 cap2 : Nat} {ys : List Nat} (hk2 : k2 < N) (hka2 : ka2 < N) (hne2 : k2 ≠ ka2) (hcap2 : cap2 < 2 ^ 31) (g : pL G ad en k2 ka2 cap2 ys) {t : Nat} (hfull : ¬ C.length < 24) : zMi l y_D_insert b_D_insert 6 .boolean 4 G ad en N [.ref (ad (3)), .ref (ad (k2)), .int (nI (t))] (fun v en1 => v = 0 ∧ en1 = en) := by
  have hh := h
  obtain ⟨d1, d2, ⟨g0, d3, d3g⟩, d4, d5, d6, d7⟩ := hh
  refine z_met (by decide) (Nat.le_of_ble_eq_true rfl) ?_
  intro p e s m below meth c ls hF hr hlocks hnam hZ hl
  have hF : CallFix p m c b_D_insert 6 s ([.ref (ad (3)), .ref (ad (k2)), .int (nI (t))] : List Value).toArray zz R_D := hF
  have hl : lv_has ls 6 [(0, .ref (ad (3))), (1, .ref (ad (k2))), (2, .int (nI (t)))] := hl
  refine lv_aload_n hF.1 hF.2.1 d_D_insert_0 rfl (lv_at hl 0 rfl) ?_
  refine gf_D_18 hF hZ (3) (by omega) d1 rfl d_D_insert_1 ?_
  refine lv_bipush (v := (nI (24))) hF.1 hF.2.1 d_D_insert_4 (by decide) ?_
  refine lv_icmp_lt (tgt := 11) hF.1 hF.2.1 d_D_insert_6 (by decide) (fun h => absurd h (nI_nlt (show 24 ≤ C.length by omega) (by omega))) (fun _ => ?_)
  refine lv_iconst (v := (nI (0))) hF.1 hF.2.1 d_D_insert_9 (by decide) ?_
  exact z_iret hF hr hlocks hZ (by decide) ⟨by decide, rfl⟩ d_D_insert_10
set_option maxHeartbeats 4000000 in
set_option maxRecDepth 100000 in
theorem c_D_insert (l : Launch) {G : zG} {ad : Nat → Nat} {en : Nat → va_E} {N : Nat} {sg : Nat → Nat} {C : List wd_W} (hN : 77 ≤ N) (h : pD G ad en sg C) {k2 ka2 cap2 : Nat} {ys : List Nat} (hk2 : k2 < N) (hka2 : ka2 < N) (hne2 : k2 ≠ ka2) (hcap2 : cap2 < 2 ^ 31) (g : pL G ad en k2 ka2 cap2 ys) (hd1 : k2 < 3 ∨ 77 ≤ k2) (hd2 : ka2 < 3 ∨ 77 ≤ ka2) (hy8 : ys.length ≤ 8) {t : Nat} (ht : t ≤ 1000000) (hl24 : C.length < 24) : zMi l y_D_insert b_D_insert 6 .boolean 4 G ad en N [.ref (ad (3)), .ref (ad (k2)), .int (nI (t))] (fun v en1 => v = 1 ∧ (∃ sg1, pD G ad en1 sg1 (C.take (C.countP (fun w => wd_lt w.1 ys)) ++ (ys, t) :: C.drop (C.countP (fun w => wd_lt w.1 ys)))) ∧ ∀ r, r < 3 ∨ 77 ≤ r → en1 r = en r) := by
  have hh := h
  obtain ⟨d1, d2, ⟨g0, d3, d3g⟩, d4, d5, d6, d7⟩ := hh
  have hs := d4 C.length hl24
  obtain ⟨⟨t0, w0⟩, xs0, w1⟩ := d6 (sg C.length) hs
  have w2 := w1
  obtain ⟨w3, -⟩ := w2
  refine z_met (by decide) (Nat.le_of_ble_eq_true rfl) ?_
  intro p e s m below meth c ls hF hr hlocks hnam hZ hl
  have hF : CallFix p m c b_D_insert 6 s ([.ref (ad (3)), .ref (ad (k2)), .int (nI (t))] : List Value).toArray zz R_D := hF
  have hl : lv_has ls 6 [(0, .ref (ad (3))), (1, .ref (ad (k2))), (2, .int (nI (t)))] := hl
  refine lv_aload_n hF.1 hF.2.1 d_D_insert_0 rfl (lv_at hl 0 rfl) ?_
  refine gf_D_18 hF hZ (3) (by omega) d1 rfl d_D_insert_1 ?_
  refine lv_bipush (v := (nI (24))) hF.1 hF.2.1 d_D_insert_4 (by decide) ?_
  refine lv_icmp_lt (tgt := 11) hF.1 hF.2.1 d_D_insert_6 (by decide) (fun _ => ?_) (fun h => absurd (nI_lt hl24 (by omega)) h)
  refine lv_aload_n hF.1 hF.2.1 d_D_insert_11 rfl (lv_at hl 0 rfl) ?_
  refine gf_D_11 hF hZ (3) (by omega) d1 rfl d_D_insert_12 ?_
  refine lv_aload_n hF.1 hF.2.1 d_D_insert_15 rfl (lv_at hl 0 rfl) ?_
  refine gf_D_18 hF hZ (3) (by omega) d1 rfl d_D_insert_16 ?_
  refine z_oald hF hZ (4) (by omega) d3 (C.length) (by omega) (by omega) (d3g (C.length) (by omega)) d_D_insert_19 ?_
  refine lv_astore_n hF.1 hF.2.1 d_D_insert_20 rfl hl (by decide) rfl (fun ls hl => ?_)
  have hl : lv_has ls 6 [(3, .ref (ad (5 + 3 * sg (C.length)))), (0, .ref (ad (3))), (1, .ref (ad (k2))), (2, .int (nI (t)))] := hl
  refine lv_aload_n hF.1 hF.2.1 d_D_insert_21 rfl (lv_at hl 0 rfl) ?_
  refine gf_D_22 hF hZ (5 + 3 * sg (C.length)) (by omega) w0 rfl d_D_insert_22 ?_
  refine lv_aload_n hF.1 hF.2.1 d_D_insert_25 rfl (lv_at hl 2 rfl) ?_
  refine z_callv hZ (z_run cw_D_42 hF hZ (6 + 3 * sg (C.length)) (c_L_copyFrom l (by omega) (by omega) (by omega) (by omega) w1 hk2 hka2 hne2 hcap2 g (by omega) (by omega) (by omega) (by omega) hy8) (by decide) (by omega) w3 rfl rfl hl.1 rfl (Nat.le_of_ble_eq_true rfl) d_D_insert_26) (fun en1 H locs hq hZ => ?_)
  obtain ⟨hq1, hq2⟩ := hq
  have w0 : en1 (5 + 3 * sg C.length) = .inr (kW, [.ref (ad (6 + 3 * sg C.length)), .int t0]) := by rw [hq2 _ (by omega) (by omega)]; exact w0
  refine lv_aload_n hF.1 hF.2.1 d_D_insert_29 rfl (lv_at hl 0 rfl) ?_
  refine lv_iload_n hF.1 hF.2.1 d_D_insert_30 rfl (lv_at hl 3 rfl) ?_
  refine pf_D_26 hF hZ (5 + 3 * sg (C.length)) (by omega) w0 (Nat.le_of_ble_eq_true rfl) d_D_insert_31 (fun H locs hZ => ?_)
  obtain ⟨ze1, hn2⟩ : ∃ z, z = va_up en1 (5 + 3 * sg (C.length)) (.inr (kW, [.ref (ad (6 + 3 * sg (C.length))), .int (nI (t))])) := ⟨_, rfl⟩
  have hZ : zH G ad ze1 N s H locs := hZ.to hn2.symm
  have ff3 : ze1 (5 + 3 * sg (C.length)) = .inr (kW, [.ref (ad (6 + 3 * sg (C.length))), .int (nI (t))]) := by rw [hn2]; exact va_up_self _ _ _
  have fr2 : ∀ r, r ≠ 5 + 3 * sg C.length → r ≠ 6 + 3 * sg C.length → r ≠ 7 + 3 * sg C.length → ze1 r = en r := fun r q1 q2 q3 => by rw [hn2, va_up_ne _ _ q1]; exact hq2 r q2 q3
  have hL2 : pL G ad ze1 (6 + 3 * sg C.length) (7 + 3 * sg C.length) 8 ys := hq1.keep (by rw [hn2, va_up_ne _ _ (by omega)]) (by rw [hn2, va_up_ne _ _ (by omega)])
  have hD2 : pD G ad ze1 sg C := h.spare hl24 fr2 ff3 hL2
  have g3 : pL G ad ze1 k2 ka2 cap2 ys := g.keep (fr2 _ (by omega) (by omega) (by omega)) (fr2 _ (by omega) (by omega) (by omega))
  have hh2 := hD2
  obtain ⟨c1, c2, ⟨gg0, c3, c3g⟩, -, -, c6, -⟩ := hh2
  refine lv_aload_n hF.1 hF.2.1 d_D_insert_34 rfl (lv_at hl 1 rfl) ?_
  refine lv_aload_n hF.1 hF.2.1 d_D_insert_35 rfl (lv_at hl 2 rfl) ?_
  refine z_calli hZ (z_run cw_D_46 hF hZ (3) (c_D_placeFor l hN hD2 hk2 hka2 hne2 hcap2 g3) (by decide) (by omega) c1 rfl rfl hl.1 rfl (Nat.le_of_ble_eq_true rfl) d_D_insert_36) (fun v enq H locs hp hZ => ?_)
  obtain ⟨he, hv⟩ := hp
  subst hv
  have hZ := hZ.to he
  obtain ⟨p0, hp0⟩ : ∃ q, q = C.countP (fun w => wd_lt w.1 ys) := ⟨_, rfl⟩
  refine z_top (show nI (C.countP (fun w => wd_lt w.1 ys)) = nI p0 by rw [hp0]) ?_
  have hpl : p0 ≤ C.length := by rw [hp0]; exact List.countP_le_length
  have loop : ∀ (k : Nat) (en3 : Nat → va_E) (g : Nat → Option Nat) (H : Heap) (locs : List Loc) (ls : Array Slot), (p0 + k ≤ C.length) → (∀ r, r ≠ 4 → en3 r = ze1 r) → (en3 4 = .inl (zO G, 24, z_refs g)) → (∀ i, i < 24 → g i = some (ad (5 + 3 * sg (px_s C.length (p0 + k) i)))) → lv_has ls 6 [(5, .int (nI (p0 + k))), (4, .int (nI (p0))), (3, .ref (ad (5 + 3 * sg (C.length)))), (0, .ref (ad (3))), (1, .ref (ad (k2))), (2, .int (nI (t)))] → zH G ad en3 N s H locs → W p l e (zR 4) s m ([.ref (ad (3)), .ref (ad (k2)), .int (nI (t))] : List Value).toArray below meth c H locs 0 0 (MQ below (zQi G ad N (fun v en1 => v = 1 ∧ (∃ sg1, pD G ad en1 sg1 (C.take (C.countP (fun w => wd_lt w.1 ys)) ++ (ys, t) :: C.drop (C.countP (fun w => wd_lt w.1 ys)))) ∧ ∀ r, r < 3 ∨ 77 ≤ r → en1 r = en r)) ([.ref (ad (3)), .ref (ad (k2)), .int (nI (t))] : List Value).toArray s 0 0 (zA G)) (F0 m 47 ls []) := by
    intro k
    induction k with
    | zero =>
      intro en3 g H locs ls hk0 hfr h4 hg hl hZ
      have c1 : en3 3 = _ := (hfr 3 (by omega)).trans c1
      have wf : en3 (5 + 3 * sg C.length) = _ := (hfr _ (by omega)).trans ff3
      have hl : lv_has ls 6 [(5, .int (nI (p0))), (4, .int (nI (p0))), (3, .ref (ad (5 + 3 * sg (C.length)))), (0, .ref (ad (3))), (1, .ref (ad (k2))), (2, .int (nI (t)))] := hl
      refine lv_iload hF.1 hF.2.1 d_D_insert_47 (lv_at hl 0 rfl) ?_
      refine lv_iload hF.1 hF.2.1 d_D_insert_49 (lv_at hl 1 rfl) ?_
      refine lv_icmp_le (tgt := 76) hF.1 hF.2.1 d_D_insert_51 (by decide) (fun _ => ?_) (fun h => absurd (nI_le (Nat.le_refl _) (by omega)) h)
      refine lv_aload_n hF.1 hF.2.1 d_D_insert_76 rfl (lv_at hl 3 rfl) ?_
      refine gf_D_11 hF hZ (3) (by omega) c1 rfl d_D_insert_77 ?_
      refine lv_iload hF.1 hF.2.1 d_D_insert_80 (lv_at hl 1 rfl) ?_
      refine lv_aload_n hF.1 hF.2.1 d_D_insert_82 rfl (lv_at hl 2 rfl) ?_
      refine z_oast hF hZ (4) (by omega) h4 (p0) (by omega) (by omega) (5 + 3 * sg (C.length)) (by omega) wf rfl rfl d_D_insert_83 (fun H locs hZ => ?_)
      obtain ⟨ze4, hn5⟩ : ∃ z, z = va_up en3 (4) (.inl (zO G, 24, z_refs (va_up g (p0) (some (ad (5 + 3 * sg (C.length))))))) := ⟨_, rfl⟩
      have hZ : zH G ad ze4 N s H locs := hZ.to hn5.symm
      have ff6 : ze4 (3) = .inr (kD, [.ref (ad (4)), .int (nI (C.length))]) := by rw [hn5, va_up_ne _ _ (by omega)]; exact c1
      have ff7 : ze4 (5 + 3 * sg (C.length)) = .inr (kW, [.ref (ad (6 + 3 * sg (C.length))), .int (nI (t))]) := by rw [hn5, va_up_ne _ _ (by omega)]; exact wf
      have c4 : ze4 4 = .inl (zO G, 24, z_refs (va_up g p0 (some (ad (5 + 3 * sg C.length))))) := by rw [hn5]; exact va_up_self _ _ _
      refine lv_aload_n hF.1 hF.2.1 d_D_insert_84 rfl (lv_at hl 3 rfl) ?_
      refine lv_dup hF.1 hF.2.1 d_D_insert_85 rfl ?_
      refine gf_D_18 hF hZ (3) (by omega) ff6 rfl d_D_insert_86 ?_
      refine lv_iconst (v := (nI (1))) hF.1 hF.2.1 d_D_insert_89 (by decide) ?_
      refine lv_iadd hF.1 hF.2.1 d_D_insert_90 ?_
      refine z_top (nI_add (C.length) (1)) ?_
      refine pf_D_18 hF hZ (3) (by omega) ff6 (Nat.le_of_ble_eq_true rfl) d_D_insert_91 (fun H locs hZ => ?_)
      obtain ⟨ze8, hn9⟩ : ∃ z, z = va_up ze4 (3) (.inr (kD, [.ref (ad (4)), .int (nI (C.length + 1))])) := ⟨_, rfl⟩
      have hZ : zH G ad ze8 N s H locs := hZ.to hn9.symm
      have ff10 : ze8 (5 + 3 * sg (C.length)) = .inr (kW, [.ref (ad (6 + 3 * sg (C.length))), .int (nI (t))]) := by rw [hn9, va_up_ne _ _ (by omega)]; exact ff7
      have ff11 : ze8 (3) = .inr (kD, [.ref (ad (4)), .int (nI (C.length + 1))]) := by rw [hn9]; exact va_up_self _ _ _
      refine lv_iconst (v := (nI (1))) hF.1 hF.2.1 d_D_insert_94 (by decide) ?_
      refine z_iret hF hr hlocks hZ (by decide) ⟨by decide, ⟨(fun k => sg (px_i C.length p0 k)), ?_⟩, fun r q => ?_⟩ d_D_insert_95
      · rw [← hp0]
        refine hD2.ins hl24 hpl ht ff3 hL2 (fun r q1 q2 => ?_) ff11 (g := va_up g p0 (some (ad (5 + 3 * sg C.length)))) (by rw [hn9, va_up_ne _ _ (by omega)]; exact c4) (fun i hi => ?_)
        · rw [hn9, va_up_ne _ _ q1, hn5, va_up_ne _ _ q2]; exact hfr r q2
        · by_cases e : i = p0
          · subst e; rw [va_up_self, px_i1]
          · rw [va_up_ne _ _ e, hg i hi, px_i2 e]; rfl
      · rw [hn9, va_up_ne _ _ (by omega), hn5, va_up_ne _ _ (by omega), hfr r (by omega)]; exact fr2 r (by omega) (by omega) (by omega)
    | succ k ih =>
      intro en3 g H locs ls hk0 hfr h4 hg hl hZ
      have c1 : en3 3 = _ := (hfr 3 (by omega)).trans c1
      have hsk := d4 (p0 + k) (by omega)
      obtain ⟨⟨t1, a1⟩, -⟩ := c6 (sg (p0 + k)) hsk
      have a1 : en3 (5 + 3 * sg (p0 + k)) = _ := (hfr _ (by omega)).trans a1
      have hl : lv_has ls 6 [(5, .int (nI (p0 + k + 1))), (4, .int (nI (p0))), (3, .ref (ad (5 + 3 * sg (C.length)))), (0, .ref (ad (3))), (1, .ref (ad (k2))), (2, .int (nI (t)))] := hl
      refine lv_iload hF.1 hF.2.1 d_D_insert_47 (lv_at hl 0 rfl) ?_
      refine lv_iload hF.1 hF.2.1 d_D_insert_49 (lv_at hl 1 rfl) ?_
      refine lv_icmp_le (tgt := 76) hF.1 hF.2.1 d_D_insert_51 (by decide) (fun h => absurd h (nI_ge (show p0 < p0 + k + 1 by omega) (by omega))) (fun _ => ?_)
      refine lv_aload_n hF.1 hF.2.1 d_D_insert_54 rfl (lv_at hl 3 rfl) ?_
      refine gf_D_11 hF hZ (3) (by omega) c1 rfl d_D_insert_55 ?_
      refine lv_iload hF.1 hF.2.1 d_D_insert_58 (lv_at hl 0 rfl) ?_
      refine lv_aload_n hF.1 hF.2.1 d_D_insert_60 rfl (lv_at hl 3 rfl) ?_
      refine gf_D_11 hF hZ (3) (by omega) c1 rfl d_D_insert_61 ?_
      refine lv_iload hF.1 hF.2.1 d_D_insert_64 (lv_at hl 0 rfl) ?_
      refine lv_iconst (v := (nI (1))) hF.1 hF.2.1 d_D_insert_66 (by decide) ?_
      refine lv_isub hF.1 hF.2.1 d_D_insert_67 ?_
      refine z_top (pk_sub (show 1 ≤ p0 + k + 1 by omega)) ?_
      refine z_oald hF hZ (4) (by omega) h4 (p0 + k) (by omega) (by omega) ((hg (p0 + k) (by omega)).trans (by rw [show p0 + (k + 1) = p0 + k + 1 from rfl, px_s1])) d_D_insert_68 ?_
      refine z_oast hF hZ (4) (by omega) h4 (p0 + k + 1) (by omega) (by omega) (5 + 3 * sg (p0 + k)) (by omega) a1 rfl rfl d_D_insert_69 (fun H locs hZ => ?_)
      obtain ⟨ze12, hn13⟩ : ∃ z, z = va_up en3 (4) (.inl (zO G, 24, z_refs (va_up g (p0 + k + 1) (some (ad (5 + 3 * sg (p0 + k))))))) := ⟨_, rfl⟩
      have hZ : zH G ad ze12 N s H locs := hZ.to hn13.symm
      have ff14 : ze12 (3) = .inr (kD, [.ref (ad (4)), .int (nI (C.length))]) := by rw [hn13, va_up_ne _ _ (by omega)]; exact c1
      have ff15 : ze12 (5 + 3 * sg (p0 + k)) = .inr (kW, [.ref (ad (6 + 3 * sg (p0 + k))), .int (t1)]) := by rw [hn13, va_up_ne _ _ (by omega)]; exact a1
      refine lv_iinc (k := 0) (v := (nI (p0 + k))) hF.1 hF.2.1 d_D_insert_70 hl rfl (iinc_q (p0 + k)) (by decide) rfl (fun ls hl => ?_)
      have hl : lv_has ls 6 [(5, .int (nI (p0 + k))), (4, .int (nI (p0))), (3, .ref (ad (5 + 3 * sg (C.length)))), (0, .ref (ad (3))), (1, .ref (ad (k2))), (2, .int (nI (t)))] := hl
      refine lv_goto (tgt := 47) hF.1 hF.2.1 d_D_insert_73 (by decide) ?_
      refine ih ze12 (va_up g (p0 + k + 1) (some (ad (5 + 3 * sg (p0 + k))))) H locs ls (by omega) (fun r q => ?_) (by rw [hn13]; exact va_up_self _ _ _) (fun i hi => ?_) hl hZ
      · rw [hn13, va_up_ne _ _ q]; exact hfr r q
      · by_cases e : i = p0 + k + 1
        · subst e; rw [va_up_self, px_s2 (by omega)]
        · rw [va_up_ne _ _ e, hg i hi, show p0 + (k + 1) = p0 + k + 1 from rfl, px_s3 e]
  refine lv_istore hF.1 hF.2.1 d_D_insert_39 hl (by decide) rfl (fun ls hl => ?_)
  have hl : lv_has ls 6 [(4, .int (nI (p0))), (3, .ref (ad (5 + 3 * sg (C.length)))), (0, .ref (ad (3))), (1, .ref (ad (k2))), (2, .int (nI (t)))] := hl
  refine lv_aload_n hF.1 hF.2.1 d_D_insert_41 rfl (lv_at hl 2 rfl) ?_
  refine gf_D_18 hF hZ (3) (by omega) c1 rfl d_D_insert_42 ?_
  refine lv_istore hF.1 hF.2.1 d_D_insert_45 hl (by decide) rfl (fun ls hl => ?_)
  have hl : lv_has ls 6 [(5, .int (nI (C.length))), (4, .int (nI (p0))), (3, .ref (ad (5 + 3 * sg (C.length)))), (0, .ref (ad (3))), (1, .ref (ad (k2))), (2, .int (nI (t)))] := hl
  obtain ⟨k0, hk0⟩ : ∃ k0, C.length = p0 + k0 := ⟨C.length - p0, by omega⟩
  exact loop k0 ze1 gg0 _ _ ls (by omega) (fun _ _ => rfl) c3 (fun i hi => by rw [← hk0, px_s4]; exact c3g i hi) (by rw [← hk0]; exact hl) hZ
set_option maxHeartbeats 4000000 in
set_option maxRecDepth 100000 in
theorem c_D_removeNo (l : Launch) {G : zG} {ad : Nat → Nat} {en : Nat → va_E} {N : Nat} {sg : Nat → Nat} {C : List wd_W} (hN : 77 ≤ N) (h : pD G ad en sg C) {k : Int32} (hno : k < 0 ∨ nI C.length ≤ k) : zMi l y_D_remove b_D_remove 4 .boolean 2 G ad en N [.ref (ad (3)), .int (k)] (fun v en1 => v = 0 ∧ en1 = en) := by
  have hh := h
  obtain ⟨d1, d2, ⟨g0, d3, d3g⟩, d4, d5, d6, d7⟩ := hh
  refine z_met (by decide) (Nat.le_of_ble_eq_true rfl) ?_
  intro p e s m below meth c ls hF hr hlocks hnam hZ hl
  have hF : CallFix p m c b_D_remove 4 s ([.ref (ad (3)), .int (k)] : List Value).toArray zz R_D := hF
  have hl : lv_has ls 4 [(0, .ref (ad (3))), (1, .int (k))] := hl
  refine lv_aload_n hF.1 hF.2.1 d_D_remove_0 rfl (lv_at hl 0 rfl) ?_
  refine lv_iload_n hF.1 hF.2.1 d_D_remove_1 rfl (lv_at hl 1 rfl) ?_
  refine z_calli hZ (z_run cw_D_50 hF hZ (3) (c_D_hasNo l hN h hno) (by decide) (by omega) d1 rfl rfl hl.1 rfl (Nat.le_of_ble_eq_true rfl) d_D_remove_2) (fun v enq H locs hp hZ => ?_)
  obtain ⟨he, hv⟩ := hp
  subst hv
  have hZ := hZ.to he
  refine lv_if_ne (tgt := 10) hF.1 hF.2.1 d_D_remove_5 (by decide) (fun h => absurd rfl h) (fun _ => ?_)
  refine lv_iconst (v := (nI (0))) hF.1 hF.2.1 d_D_remove_8 (by decide) ?_
  exact z_iret hF hr hlocks hZ (by decide) ⟨by decide, rfl⟩ d_D_remove_9
set_option maxHeartbeats 4000000 in
set_option maxRecDepth 100000 in
theorem c_D_remove (l : Launch) {G : zG} {ad : Nat → Nat} {en : Nat → va_E} {N : Nat} {sg : Nat → Nat} {C : List wd_W} (hN : 77 ≤ N) (h : pD G ad en sg C) {j : Nat} (hj : j < C.length) : zMi l y_D_remove b_D_remove 4 .boolean 2 G ad en N [.ref (ad (3)), .int (nI (j))] (fun v en1 => v = 1 ∧ (∃ sg1, pD G ad en1 sg1 (C.eraseIdx j)) ∧ ∀ r, r < 3 ∨ 77 ≤ r → en1 r = en r) := by
  have hh := h
  obtain ⟨d1, d2, ⟨g0, d3, d3g⟩, d4, d5, d6, d7⟩ := hh
  have hs := d4 j (by omega)
  obtain ⟨⟨t0, w0⟩, -⟩ := d6 (sg j) hs
  refine z_met (by decide) (Nat.le_of_ble_eq_true rfl) ?_
  intro p e s m below meth c ls hF hr hlocks hnam hZ hl
  have hF : CallFix p m c b_D_remove 4 s ([.ref (ad (3)), .int (nI (j))] : List Value).toArray zz R_D := hF
  have hl : lv_has ls 4 [(0, .ref (ad (3))), (1, .int (nI (j)))] := hl
  refine lv_aload_n hF.1 hF.2.1 d_D_remove_0 rfl (lv_at hl 0 rfl) ?_
  refine lv_iload_n hF.1 hF.2.1 d_D_remove_1 rfl (lv_at hl 1 rfl) ?_
  refine z_calli hZ (z_run cw_D_50 hF hZ (3) (c_D_has l hN h hj) (by decide) (by omega) d1 rfl rfl hl.1 rfl (Nat.le_of_ble_eq_true rfl) d_D_remove_2) (fun v enq H locs hp hZ => ?_)
  obtain ⟨he, hv⟩ := hp
  subst hv
  have hZ := hZ.to he
  refine lv_if_ne (tgt := 10) hF.1 hF.2.1 d_D_remove_5 (by decide) (fun _ => ?_) (fun h => absurd h (by decide))
  refine lv_aload_n hF.1 hF.2.1 d_D_remove_10 rfl (lv_at hl 0 rfl) ?_
  refine gf_D_11 hF hZ (3) (by omega) d1 rfl d_D_remove_11 ?_
  refine lv_iload_n hF.1 hF.2.1 d_D_remove_14 rfl (lv_at hl 1 rfl) ?_
  refine z_oald hF hZ (4) (by omega) d3 (j) (by omega) (by omega) (d3g (j) (by omega)) d_D_remove_15 ?_
  refine lv_astore_n hF.1 hF.2.1 d_D_remove_16 rfl hl (by decide) rfl (fun ls hl => ?_)
  have hl : lv_has ls 4 [(2, .ref (ad (5 + 3 * sg (j)))), (0, .ref (ad (3))), (1, .int (nI (j)))] := hl
  refine lv_aload_n hF.1 hF.2.1 d_D_remove_17 rfl (lv_at hl 1 rfl) ?_
  refine lv_dup hF.1 hF.2.1 d_D_remove_18 rfl ?_
  refine gf_D_18 hF hZ (3) (by omega) d1 rfl d_D_remove_19 ?_
  refine lv_iconst (v := (nI (1))) hF.1 hF.2.1 d_D_remove_22 (by decide) ?_
  refine lv_isub hF.1 hF.2.1 d_D_remove_23 ?_
  refine z_top (pk_sub (show 1 ≤ C.length by omega)) ?_
  refine pf_D_18 hF hZ (3) (by omega) d1 (Nat.le_of_ble_eq_true rfl) d_D_remove_24 (fun H locs hZ => ?_)
  obtain ⟨ze1, hn2⟩ : ∃ z, z = va_up en (3) (.inr (kD, [.ref (ad (4)), .int (nI (C.length - (1)))])) := ⟨_, rfl⟩
  have hZ : zH G ad ze1 N s H locs := hZ.to hn2.symm
  have ff3 : ze1 (4) = .inl (zO G, 24, z_refs g0) := by rw [hn2, va_up_ne _ _ (by omega)]; exact d3
  have ff4 : ze1 (5 + 3 * sg (j)) = .inr (kW, [.ref (ad (6 + 3 * sg (j))), .int (t0)]) := by rw [hn2, va_up_ne _ _ (by omega)]; exact w0
  have ff5 : ze1 (3) = .inr (kD, [.ref (ad (4)), .int (nI (C.length - (1)))]) := by rw [hn2]; exact va_up_self _ _ _
  have loop : ∀ (k i : Nat) (en3 : Nat → va_E) (g : Nat → Option Nat) (H : Heap) (locs : List Loc) (ls : Array Slot), (i + k = C.length - 1) → (j ≤ i) → (∀ r, r ≠ 4 → en3 r = ze1 r) → (en3 4 = .inl (zO G, 24, z_refs g)) → (∀ a, a < 24 → g a = some (ad (5 + 3 * sg (px_t j i a)))) → lv_has ls 4 [(3, .int (nI (i))), (2, .ref (ad (5 + 3 * sg (j)))), (0, .ref (ad (3))), (1, .int (nI (j)))] → zH G ad en3 N s H locs → W p l e (zR 2) s m ([.ref (ad (3)), .int (nI (j))] : List Value).toArray below meth c H locs 0 0 (MQ below (zQi G ad N (fun v en1 => v = 1 ∧ (∃ sg1, pD G ad en1 sg1 (C.eraseIdx j)) ∧ ∀ r, r < 3 ∨ 77 ≤ r → en1 r = en r)) ([.ref (ad (3)), .int (nI (j))] : List Value).toArray s 0 0 (zA G)) (F0 m 29 ls []) := by
    intro k
    induction k with
    | zero =>
      intro i en3 g H locs ls hin hji hfr h4 hg hl hZ
      have c1 : en3 3 = _ := (hfr 3 (by omega)).trans ff5
      have wf : en3 (5 + 3 * sg j) = _ := (hfr _ (by omega)).trans ff4
      refine lv_iload_n hF.1 hF.2.1 d_D_remove_29 rfl (lv_at hl 0 rfl) ?_
      refine lv_aload_n hF.1 hF.2.1 d_D_remove_30 rfl (lv_at hl 2 rfl) ?_
      refine gf_D_18 hF hZ (3) (by omega) c1 rfl d_D_remove_31 ?_
      refine lv_icmp_ge (tgt := 57) hF.1 hF.2.1 d_D_remove_34 (by decide) (fun _ => ?_) (fun h => absurd (nI_le (by omega) (by omega)) h)
      refine lv_aload_n hF.1 hF.2.1 d_D_remove_57 rfl (lv_at hl 2 rfl) ?_
      refine gf_D_11 hF hZ (3) (by omega) c1 rfl d_D_remove_58 ?_
      refine lv_aload_n hF.1 hF.2.1 d_D_remove_61 rfl (lv_at hl 2 rfl) ?_
      refine gf_D_18 hF hZ (3) (by omega) c1 rfl d_D_remove_62 ?_
      refine lv_aload_n hF.1 hF.2.1 d_D_remove_65 rfl (lv_at hl 1 rfl) ?_
      refine z_oast hF hZ (4) (by omega) h4 (C.length - (1)) (by omega) (by omega) (5 + 3 * sg (j)) (by omega) wf rfl rfl d_D_remove_66 (fun H locs hZ => ?_)
      obtain ⟨ze6, hn7⟩ : ∃ z, z = va_up en3 (4) (.inl (zO G, 24, z_refs (va_up g (C.length - (1)) (some (ad (5 + 3 * sg (j))))))) := ⟨_, rfl⟩
      have hZ : zH G ad ze6 N s H locs := hZ.to hn7.symm
      have ff8 : ze6 (3) = .inr (kD, [.ref (ad (4)), .int (nI (C.length - (1)))]) := by rw [hn7, va_up_ne _ _ (by omega)]; exact c1
      have ff9 : ze6 (5 + 3 * sg (j)) = .inr (kW, [.ref (ad (6 + 3 * sg (j))), .int (t0)]) := by rw [hn7, va_up_ne _ _ (by omega)]; exact wf
      refine lv_iconst (v := (nI (1))) hF.1 hF.2.1 d_D_remove_67 (by decide) ?_
      refine z_iret hF hr hlocks hZ (by decide) ⟨by decide, ⟨_, h.rem hj (en1 := ze6) (fun r q1 q2 => ?_) ff8 (g := va_up g (C.length - 1) (some (ad (5 + 3 * sg j)))) (by rw [hn7]; exact va_up_self _ _ _) (fun a ha => ?_)⟩, fun r q => ?_⟩ d_D_remove_68
      · rw [hn7, va_up_ne _ _ q2, hfr r q2, hn2, va_up_ne _ _ q1]
      · by_cases e : a = C.length - 1
        · subst e; rw [va_up_self, px_r1 hj]
        · rw [va_up_ne _ _ e, hg a ha, px_r2 hj e, show i = C.length - 1 by omega]
      · rw [hn7, va_up_ne _ _ (by omega), hfr r (by omega), hn2, va_up_ne _ _ (by omega)]
    | succ k ih =>
      intro i en3 g H locs ls hin hji hfr h4 hg hl hZ
      have c1 : en3 3 = _ := (hfr 3 (by omega)).trans ff5
      have hsk := d4 (i + 1) (by omega)
      obtain ⟨⟨t1, a1⟩, -⟩ := d6 (sg (i + 1)) hsk
      have a1 := (show en3 (5 + 3 * sg (i + 1)) = en (5 + 3 * sg (i + 1)) by rw [hfr _ (by omega), hn2, va_up_ne _ _ (by omega)]).trans a1
      refine lv_iload_n hF.1 hF.2.1 d_D_remove_29 rfl (lv_at hl 0 rfl) ?_
      refine lv_aload_n hF.1 hF.2.1 d_D_remove_30 rfl (lv_at hl 2 rfl) ?_
      refine gf_D_18 hF hZ (3) (by omega) c1 rfl d_D_remove_31 ?_
      refine lv_icmp_ge (tgt := 57) hF.1 hF.2.1 d_D_remove_34 (by decide) (fun h => absurd h (nI_ge (show i < C.length - 1 by omega) (by omega))) (fun _ => ?_)
      refine lv_aload_n hF.1 hF.2.1 d_D_remove_37 rfl (lv_at hl 2 rfl) ?_
      refine gf_D_11 hF hZ (3) (by omega) c1 rfl d_D_remove_38 ?_
      refine lv_iload_n hF.1 hF.2.1 d_D_remove_41 rfl (lv_at hl 0 rfl) ?_
      refine lv_aload_n hF.1 hF.2.1 d_D_remove_42 rfl (lv_at hl 2 rfl) ?_
      refine gf_D_11 hF hZ (3) (by omega) c1 rfl d_D_remove_43 ?_
      refine lv_iload_n hF.1 hF.2.1 d_D_remove_46 rfl (lv_at hl 0 rfl) ?_
      refine lv_iconst (v := (nI (1))) hF.1 hF.2.1 d_D_remove_47 (by decide) ?_
      refine lv_iadd hF.1 hF.2.1 d_D_remove_48 ?_
      refine z_top (nI_add (i) (1)) ?_
      refine z_oald hF hZ (4) (by omega) h4 (i + 1) (by omega) (by omega) ((hg (i + 1) (by omega)).trans (by rw [px_t1])) d_D_remove_49 ?_
      refine z_oast hF hZ (4) (by omega) h4 (i) (by omega) (by omega) (5 + 3 * sg (i + 1)) (by omega) a1 rfl rfl d_D_remove_50 (fun H locs hZ => ?_)
      obtain ⟨ze10, hn11⟩ : ∃ z, z = va_up en3 (4) (.inl (zO G, 24, z_refs (va_up g (i) (some (ad (5 + 3 * sg (i + 1))))))) := ⟨_, rfl⟩
      have hZ : zH G ad ze10 N s H locs := hZ.to hn11.symm
      have ff12 : ze10 (3) = .inr (kD, [.ref (ad (4)), .int (nI (C.length - (1)))]) := by rw [hn11, va_up_ne _ _ (by omega)]; exact c1
      have ff13 : ze10 (5 + 3 * sg (i + 1)) = .inr (kW, [.ref (ad (6 + 3 * sg (i + 1))), .int (t1)]) := by rw [hn11, va_up_ne _ _ (by omega)]; exact a1
      refine lv_iinc (k := 0) (v := (nI (i + 1))) hF.1 hF.2.1 d_D_remove_51 hl rfl (iinc_p (i)) (by decide) rfl (fun ls hl => ?_)
      have hl : lv_has ls 4 [(3, .int (nI (i + 1))), (2, .ref (ad (5 + 3 * sg (j)))), (0, .ref (ad (3))), (1, .int (nI (j)))] := hl
      refine lv_goto (tgt := 29) hF.1 hF.2.1 d_D_remove_54 (by decide) ?_
      refine ih (i + 1) ze10 (va_up g i (some (ad (5 + 3 * sg (i + 1))))) H locs ls (by omega) (by omega) (fun r q => ?_) (by rw [hn11]; exact va_up_self _ _ _) (fun a ha => ?_) hl hZ
      · rw [hn11, va_up_ne _ _ q]; exact hfr r q
      · by_cases e : a = i
        · subst e; rw [va_up_self, px_t2 (by omega)]
        · rw [va_up_ne _ _ e, hg a ha, px_t3 e]
  refine lv_iload_n hF.1 hF.2.1 d_D_remove_27 rfl (lv_at hl 2 rfl) ?_
  refine lv_istore_n hF.1 hF.2.1 d_D_remove_28 rfl hl (by decide) rfl (fun ls hl => ?_)
  have hl : lv_has ls 4 [(3, .int (nI (j))), (2, .ref (ad (5 + 3 * sg (j)))), (0, .ref (ad (3))), (1, .int (nI (j)))] := hl
  exact loop (C.length - 1 - j) j ze1 g0 _ _ ls (by omega) (by omega) (fun _ _ => rfl) ff3 (fun a ha => by rw [px_t0]; exact d3g a ha) hl hZ
