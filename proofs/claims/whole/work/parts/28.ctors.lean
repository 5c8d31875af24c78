set_option maxHeartbeats 4000000 in
set_option maxRecDepth 100000 in
theorem c_L_init (l : Launch) {G : zG} {en : Nat → va_E} {N k cap : Nat} (hk : k < N) (hcap : cap < 1000) (e0 : en k = .inr (kL, [.null, .int (0)])) : zMc l y_L_init b_L_init 2 1 1 (cap) G en (N) [.ref (zb G + (k)), .int (nI (cap))] (N + 1) (fun en1 => pL G (adG G) en1 k N cap [] ∧ ∀ r, r < N → r ≠ k → en1 r = en r) := by
  refine z_metc (by decide) (Nat.le_of_ble_eq_true rfl) ?_
  intro p e s m below meth c ls hF hr hlocks hnam hZ hs0 hl
  have hF : CallFix p m c b_L_init 2 s ([.ref (zb G + (k)), .int (nI (cap))] : List Value).toArray zz R_L := hF
  have hnam : meth.name = "<init>" := hnam
  have hl : lv_has ls 2 [(0, .ref (zb G + (k))), (1, .int (nI (cap)))] := hl
  refine lv_aload_n hF.1 hF.2.1 d_L_init_0 rfl (lv_at hl 0 rfl) ?_
  refine z_oinit ml_L_3 hF hl.1 d_L_init_1 ⟨(Nat.le_of_ble_eq_true rfl), (Nat.le_of_ble_eq_true rfl)⟩ ?_
  refine lv_aload_n hF.1 hF.2.1 d_L_init_4 rfl (lv_at hl 0 rfl) ?_
  refine lv_iload_n hF.1 hF.2.1 d_L_init_5 rfl (lv_at hl 1 rfl) ?_
  refine z_newi hF hZ (by omega) (by omega) (Nat.le_refl _) (by show 0 + cap ≤ cap; omega) d_L_init_6 (fun H hZ => ?_)
  obtain ⟨ze1, hn2⟩ : ∃ z, z = va_up en (N) (.inl (zI G, cap, .inl (fun _ => 0))) := ⟨_, rfl⟩
  have hZ : zH G (adG G) ze1 (N + 1) s H _ := hZ.to hn2.symm
  have ff3 : ze1 (k) = .inr (kL, [.null, .int (0)]) := by rw [hn2, va_up_ne _ _ (by omega)]; exact e0
  have ff4 : ze1 (N) = .inl (zI G, cap, .inl (fun _ => 0)) := by rw [hn2]; exact va_up_self _ _ _
  refine pF_L_9 hF hZ hnam (k) (by omega) ff3 (Nat.le_of_ble_eq_true rfl) d_L_init_8 (fun H locs hZ => ?_)
  obtain ⟨ze5, hn6⟩ : ∃ z, z = va_up ze1 (k) (.inr (kL, [.ref (zb G + (N)), .int (0)])) := ⟨_, rfl⟩
  have hZ : zH G (adG G) ze5 (N + 1) s H _ := hZ.to hn6.symm
  have ff7 : ze5 (N) = .inl (zI G, cap, .inl ((fun _ => 0))) := by rw [hn6, va_up_ne _ _ (by omega)]; exact ff4
  have ff8 : ze5 (k) = .inr (kL, [.ref (zb G + (N)), .int (0)]) := by rw [hn6]; exact va_up_self _ _ _
  refine lv_aload_n hF.1 hF.2.1 d_L_init_11 rfl (lv_at hl 0 rfl) ?_
  refine lv_iconst (v := (nI (0))) hF.1 hF.2.1 d_L_init_12 (by decide) ?_
  refine pf_L_15 hF hZ (k) (by omega) ff8 (Nat.le_of_ble_eq_true rfl) d_L_init_13 (fun H locs hZ => ?_)
  obtain ⟨ze9, hn10⟩ : ∃ z, z = va_up ze5 (k) (.inr (kL, [.ref (zb G + (N)), .int (nI (0))])) := ⟨_, rfl⟩
  have hZ : zH G (adG G) ze9 (N + 1) s H _ := hZ.to hn10.symm
  have ff11 : ze9 (N) = .inl (zI G, cap, .inl ((fun _ => 0))) := by rw [hn10, va_up_ne _ _ (by omega)]; exact ff7
  have ff12 : ze9 (k) = .inr (kL, [.ref (zb G + (N)), .int (nI (0))]) := by rw [hn10]; exact va_up_self _ _ _
  refine W.cs (show 0 + 1 = 1 from rfl) (show 0 + cap = cap from Nat.zero_add _) ?_
  exact z_vretc hF hr hlocks hZ ⟨⟨ff12, Nat.zero_le _, w26_nil, _, ff11, fun i hi => absurd hi (Nat.not_lt_zero _)⟩, fun r r1 r2 => by rw [hn10, va_up_ne _ _ r2, hn6, va_up_ne _ _ r2, hn2, va_up_ne _ _ (by omega)]⟩ d_L_init_16
set_option maxHeartbeats 4000000 in
set_option maxRecDepth 100000 in
theorem c_W_init (l : Launch) {G : zG} {en : Nat → va_E} {N k : Nat} (hk : k < N) (e0 : en k = .inr (kW, [.null, .int (0)])) : zMc l y_W_init b_W_init 1 2 2 (10) G en (N) [.ref (zb G + (k))] (N + 2) (fun en1 => en1 k = .inr (kW, [.ref (zb G + N), .int (nI 0)]) ∧ pL G (adG G) en1 N (N + 1) 8 [] ∧ ∀ r, r < N → r ≠ k → en1 r = en r) := by
  refine z_metc (by decide) (Nat.le_of_ble_eq_true rfl) ?_
  intro p e s m below meth c ls hF hr hlocks hnam hZ hs0 hl
  have hF : CallFix p m c b_W_init 1 s ([.ref (zb G + (k))] : List Value).toArray zz R_W := hF
  have hnam : meth.name = "<init>" := hnam
  have hl : lv_has ls 1 [(0, .ref (zb G + (k)))] := hl
  refine lv_aload_n hF.1 hF.2.1 d_W_init_0 rfl (lv_at hl 0 rfl) ?_
  refine z_oinit ml_W_3 hF hl.1 d_W_init_1 ⟨(Nat.le_of_ble_eq_true rfl), (Nat.le_of_ble_eq_true rfl)⟩ ?_
  refine lv_aload_n hF.1 hF.2.1 d_W_init_4 rfl (lv_at hl 0 rfl) ?_
  refine z_new (ci := kL) (fs := [.null, .int (0)]) t_L u_L t_L_ok rfl cl_W_9 ib_L in_L (fun j hj => by
      match j, hj with
      | 0, _ => rfl
      | 1, _ => rfl) hF hZ (by omega) (Nat.le_of_ble_eq_true rfl) (Nat.le_of_ble_eq_true rfl) d_W_init_5 (fun H hZ => ?_)
  obtain ⟨ze1, hn2⟩ : ∃ z, z = va_up en (N) (.inr (kL, [.null, .int (0)])) := ⟨_, rfl⟩
  have hZ : zH G (adG G) ze1 (N + 1) s H _ := hZ.to hn2.symm
  have ff3 : ze1 (k) = .inr (kW, [.null, .int (0)]) := by rw [hn2, va_up_ne _ _ (by omega)]; exact e0
  have ff4 : ze1 (N) = .inr (kL, [.null, .int (0)]) := by rw [hn2]; exact va_up_self _ _ _
  refine lv_dup hF.1 hF.2.1 d_W_init_8 rfl ?_
  refine lv_bipush (v := (nI (8))) hF.1 hF.2.1 d_W_init_9 (by decide) ?_
  refine z_runI (n := 1) cd_L_init ml_W_11 in_L im_L_init rfl (by decide +kernel) hF hZ (by omega) (N) (c_L_init l (k := N) (cap := 8) (by omega) (by omega) ff4) ⟨(Nat.le_of_ble_eq_true rfl), (Nat.le_of_ble_eq_true rfl)⟩ ⟨(Nat.le_of_ble_eq_true rfl), (Nat.le_of_ble_eq_true rfl)⟩ rfl hl.1 rfl (Nat.le_of_ble_eq_true rfl) d_W_init_11 (fun en2 H locs hq hZ => ?_)
  obtain ⟨hq1, hq2⟩ := hq
  have ek : en2 k = .inr (kW, [.null, .int (0)]) := by rw [hq2 k (by omega) (by omega)]; exact ff3
  refine pF_W_14 hF hZ hnam (k) (by omega) ek (Nat.le_of_ble_eq_true rfl) d_W_init_14 (fun H locs hZ => ?_)
  obtain ⟨ze5, hn6⟩ : ∃ z, z = va_up en2 (k) (.inr (kW, [.ref (zb G + (N)), .int (0)])) := ⟨_, rfl⟩
  have hZ : zH G (adG G) ze5 (N + 2) s H _ := hZ.to hn6.symm
  have ff7 : ze5 (k) = .inr (kW, [.ref (zb G + (N)), .int (0)]) := by rw [hn6]; exact va_up_self _ _ _
  refine lv_aload_n hF.1 hF.2.1 d_W_init_17 rfl (lv_at hl 0 rfl) ?_
  refine lv_iconst (v := (nI (0))) hF.1 hF.2.1 d_W_init_18 (by decide) ?_
  refine pf_W_20 hF hZ (k) (by omega) ff7 (Nat.le_of_ble_eq_true rfl) d_W_init_19 (fun H locs hZ => ?_)
  obtain ⟨ze8, hn9⟩ : ∃ z, z = va_up ze5 (k) (.inr (kW, [.ref (zb G + (N)), .int (nI (0))])) := ⟨_, rfl⟩
  have hZ : zH G (adG G) ze8 (N + 2) s H _ := hZ.to hn9.symm
  have ff10 : ze8 (k) = .inr (kW, [.ref (zb G + (N)), .int (nI (0))]) := by rw [hn9]; exact va_up_self _ _ _
  exact z_vretc hF hr hlocks hZ ⟨ff10, hq1.keep (by rw [hn9, va_up_ne _ _ (by omega), hn6, va_up_ne _ _ (by omega)]) (by rw [hn9, va_up_ne _ _ (by omega), hn6, va_up_ne _ _ (by omega)]), fun r r1 r2 => by rw [hn9, va_up_ne _ _ r2, hn6, va_up_ne _ _ r2, hq2 r (by omega) (by omega), hn2, va_up_ne _ _ (by omega)]⟩ d_W_init_22
set_option maxHeartbeats 4000000 in
set_option maxRecDepth 100000 in
theorem c_D_init (l : Launch) {G : zG} {en : Nat → va_E} (e0 : en 3 = .inr (kD, [.null, .int (0)])) : zMc l y_D_init b_D_init 2 3 73 (312) G en (4) [.ref (zb G + (3))] (77) (fun en1 => pD G (adG G) en1 (fun k => k) [] ∧ ∀ r, r < 3 → en1 r = en r) := by
  refine z_metc (by decide) (Nat.le_of_ble_eq_true rfl) ?_
  intro p e s m below meth c ls hF hr hlocks hnam hZ hs0 hl
  have hF : CallFix p m c b_D_init 2 s ([.ref (zb G + (3))] : List Value).toArray zz R_D := hF
  have hnam : meth.name = "<init>" := hnam
  have hl : lv_has ls 2 [(0, .ref (zb G + (3)))] := hl
  refine lv_aload_n hF.1 hF.2.1 d_D_init_0 rfl (lv_at hl 0 rfl) ?_
  refine z_oinit ml_D_3 hF hl.1 d_D_init_1 ⟨(Nat.le_of_ble_eq_true rfl), (Nat.le_of_ble_eq_true rfl)⟩ ?_
  refine lv_aload_n hF.1 hF.2.1 d_D_init_4 rfl (lv_at hl 0 rfl) ?_
  refine lv_bipush (v := (nI (24))) hF.1 hF.2.1 d_D_init_5 (by decide) ?_
  refine z_newo (n := 24) cl_D_9 hF hZ (by omega) (by omega) (Nat.le_of_ble_eq_true rfl) (Nat.le_of_ble_eq_true rfl) d_D_init_7 (fun H hZ => ?_)
  obtain ⟨ze1, hn2⟩ : ∃ z, z = va_up en (4) (.inl (zO G, 24, z_refs (fun _ => none))) := ⟨_, rfl⟩
  have hZ : zH G (adG G) ze1 (5) s H _ := hZ.to hn2.symm
  have ff3 : ze1 (3) = .inr (kD, [.null, .int (0)]) := by rw [hn2, va_up_ne _ _ (by omega)]; exact e0
  have e4 : ze1 4 = .inl (zO G, 24, z_refs (fun _ => none)) := by rw [hn2]; exact va_up_self _ _ _
  refine pF_D_11 hF hZ hnam (3) (by omega) ff3 (Nat.le_of_ble_eq_true rfl) d_D_init_10 (fun H locs hZ => ?_)
  obtain ⟨ze4, hn5⟩ : ∃ z, z = va_up ze1 (3) (.inr (kD, [.ref (zb G + (4)), .int (0)])) := ⟨_, rfl⟩
  have hZ : zH G (adG G) ze4 (5) s H _ := hZ.to hn5.symm
  have ff6 : ze4 (3) = .inr (kD, [.ref (zb G + (4)), .int (0)]) := by rw [hn5]; exact va_up_self _ _ _
  have e4 : ze4 4 = .inl (zO G, 24, z_refs (fun _ => none)) := by rw [hn5, va_up_ne _ _ (by omega)]; exact e4
  refine lv_iconst (v := (nI (0))) hF.1 hF.2.1 d_D_init_13 (by decide) ?_
  refine lv_istore_n hF.1 hF.2.1 d_D_init_14 rfl hl (by decide) rfl (fun ls hl => ?_)
  have hl : lv_has ls 2 [(1, .int (nI (0))), (0, .ref (zb G + (3)))] := hl
  have loop : ∀ (n i : Nat) (en1 : Nat → va_E) (g : Nat → Option Nat) (H : Heap) (locs : List Loc) (ls : Array Slot), i + n = 24 → en1 3 = .inr (kD, [.ref (zb G + 4), .int (0)]) → en1 4 = .inl (zO G, 24, z_refs g) → (∀ k, k < i → g k = some (zb G + (5 + 3 * k))) → (∀ k, k < i → en1 (5 + 3 * k) = .inr (kW, [.ref (zb G + (6 + 3 * k)), .int (nI 0)]) ∧ pL G (adG G) en1 (6 + 3 * k) (7 + 3 * k) 8 []) → (∀ r, r < 3 → en1 r = en r) → lv_has ls 2 [(1, .int (nI (i))), (0, .ref (zb G + (3)))] → zH G (adG G) en1 (5 + 3 * i) s H locs → W p l e (zRn 3 73 312) s m ([.ref (zb G + (3))] : List Value).toArray below meth c H locs (1 + 3 * i) (24 + 12 * i) (MQ below (zQv G (adG G) 77 (fun en1 => pD G (adG G) en1 (fun k => k) [] ∧ ∀ r, r < 3 → en1 r = en r)) ([.ref (zb G + (3))] : List Value).toArray s 73 312 (zA G)) (F0 m 15 ls []) := by
    intro n
    induction n with
    | zero =>
      intro i en1 g H locs ls hin e3 e4 hg hw hfr hl hZ
      have hi : i = 24 := by omega
      subst hi
      have hZ : zH G (adG G) en1 (77) s H locs := hZ
      refine lv_iload_n hF.1 hF.2.1 d_D_init_15 rfl (lv_at hl 0 rfl) ?_
      refine lv_bipush (v := (nI (24))) hF.1 hF.2.1 d_D_init_16 (by decide) ?_
      refine lv_icmp_ge (tgt := 40) hF.1 hF.2.1 d_D_init_18 (by decide) (fun _ => ?_) (fun h => absurd (nI_le (Nat.le_refl _) (by omega)) h)
      refine lv_aload_n hF.1 hF.2.1 d_D_init_40 rfl (lv_at hl 1 rfl) ?_
      refine lv_iconst (v := (nI (0))) hF.1 hF.2.1 d_D_init_41 (by decide) ?_
      refine pf_D_18 hF hZ (3) (by omega) e3 (Nat.le_of_ble_eq_true rfl) d_D_init_42 (fun H locs hZ => ?_)
      obtain ⟨ze7, hn8⟩ : ∃ z, z = va_up en1 (3) (.inr (kD, [.ref (zb G + (4)), .int (nI (0))])) := ⟨_, rfl⟩
      have hZ : zH G (adG G) ze7 (77) s H _ := hZ.to hn8.symm
      have ff9 : ze7 (4) = .inl (zO G, 24, z_refs g) := by rw [hn8, va_up_ne _ _ (by omega)]; exact e4
      have ff10 : ze7 (3) = .inr (kD, [.ref (zb G + (4)), .int (nI (0))]) := by rw [hn8]; exact va_up_self _ _ _
      refine W.cs (show 1 + 3 * 24 = 73 from rfl) (show 24 + 12 * 24 = 312 from rfl) ?_
      refine z_vretc hF hr hlocks hZ ⟨⟨ff10, Nat.zero_le _, ⟨g, ff9, hg⟩, fun k hk => hk, fun i j _ _ h => h, fun j hj => ?_, fun k w hk => by simp at hk⟩, fun r hr => by rw [hn8, va_up_ne _ _ (by omega)]; exact hfr r hr⟩ d_D_init_45
      obtain ⟨a1, a2⟩ := hw j hj
      exact ⟨⟨_, by rw [hn8, va_up_ne _ _ (by omega)]; exact a1⟩, [], a2.keep (by rw [hn8, va_up_ne _ _ (by omega)]) (by rw [hn8, va_up_ne _ _ (by omega)])⟩
    | succ n ih =>
      intro i en1 g H locs ls hin e3 e4 hg hw hfr hl hZ
      refine lv_iload_n hF.1 hF.2.1 d_D_init_15 rfl (lv_at hl 0 rfl) ?_
      refine lv_bipush (v := (nI (24))) hF.1 hF.2.1 d_D_init_16 (by decide) ?_
      refine lv_icmp_ge (tgt := 40) hF.1 hF.2.1 d_D_init_18 (by decide) (fun h => absurd h (nI_ge (show i < 24 by omega) (by omega))) (fun _ => ?_)
      refine lv_aload_n hF.1 hF.2.1 d_D_init_21 rfl (lv_at hl 1 rfl) ?_
      refine gf_D_11 hF hZ (3) (by omega) e3 rfl d_D_init_22 ?_
      refine lv_iload_n hF.1 hF.2.1 d_D_init_25 rfl (lv_at hl 0 rfl) ?_
      refine z_new (ci := kW) (fs := [.null, .int (0)]) t_W u_W t_W_ok rfl cl_D_9 ib_W in_W (fun j hj => by
          match j, hj with
          | 0, _ => rfl
          | 1, _ => rfl) hF hZ (by omega) (by show 1 + 3 * i + 1 ≤ 73; omega) (by show 24 + 12 * i + 2 ≤ 312; omega) d_D_init_26 (fun H hZ => ?_)
      obtain ⟨ze11, hn12⟩ : ∃ z, z = va_up en1 (5 + 3 * i) (.inr (kW, [.null, .int (0)])) := ⟨_, rfl⟩
      have hZ : zH G (adG G) ze11 (5 + 3 * i + 1) s H _ := hZ.to hn12.symm
      have ff13 : ze11 (3) = .inr (kD, [.ref (zb G + (4)), .int (0)]) := by rw [hn12, va_up_ne _ _ (by omega)]; exact e3
      have ff14 : ze11 (4) = .inl (zO G, 24, z_refs g) := by rw [hn12, va_up_ne _ _ (by omega)]; exact e4
      have ff15 : ze11 (5 + 3 * i) = .inr (kW, [.null, .int (0)]) := by rw [hn12]; exact va_up_self _ _ _
      refine lv_dup hF.1 hF.2.1 d_D_init_29 rfl ?_
      refine z_runI (n := 0) cd_W_init ml_D_17 in_W im_W_init rfl (by decide +kernel) hF hZ (by omega) (5 + 3 * i) (c_W_init l (k := 5 + 3 * i) (by omega) ff15) ⟨(Nat.le_of_ble_eq_true rfl), (Nat.le_of_ble_eq_true rfl)⟩ ⟨(by show 1 + 3 * i + 1 + 2 ≤ 73; omega), (by show 24 + 12 * i + 2 + 10 ≤ 312; omega)⟩ rfl hl.1 rfl (Nat.le_of_ble_eq_true rfl) d_D_init_30 (fun en2 H locs hq hZ => ?_)
      obtain ⟨hq1, hq2, hq3⟩ := hq
      have e3 : en2 3 = .inr (kD, [.ref (zb G + 4), .int (0)]) := by rw [hq3 3 (by omega) (by omega)]; exact ff13
      have e4 : en2 4 = .inl (zO G, 24, z_refs g) := by rw [hq3 4 (by omega) (by omega)]; exact ff14
      refine z_oast hF hZ (4) (by omega) e4 (i) (by omega) (by omega) (5 + 3 * i) (by omega) hq1 rfl rfl d_D_init_33 (fun H locs hZ => ?_)
      obtain ⟨ze16, hn17⟩ : ∃ z, z = va_up en2 (4) (.inl (zO G, 24, z_refs (va_up g (i) (some (zb G + (5 + 3 * i)))))) := ⟨_, rfl⟩
      have hZ : zH G (adG G) ze16 (5 + 3 * i + 1 + 2) s H _ := hZ.to hn17.symm
      have ff18 : ze16 (5 + 3 * i) = .inr (kW, [.ref (zb G + (5 + 3 * i + 1)), .int (nI (0))]) := by rw [hn17, va_up_ne _ _ (by omega)]; exact hq1
      refine lv_iinc (k := 0) (v := (nI (i + 1))) hF.1 hF.2.1 d_D_init_34 hl rfl (iinc_p (i)) (by decide) rfl (fun ls hl => ?_)
      have hl : lv_has ls 2 [(1, .int (nI (i + 1))), (0, .ref (zb G + (3)))] := hl
      refine lv_goto (tgt := 15) hF.1 hF.2.1 d_D_init_37 (by decide) ?_
      have ho : ∀ r, r < 5 + 3 * i → r ≠ 4 → ze16 r = en1 r := fun r r1 r2 => by rw [hn17, va_up_ne _ _ r2, hq3 r (by omega) (by omega), hn12, va_up_ne _ _ (by omega)]
      have hk2 : ∀ r, r ≠ 4 → ze16 r = en2 r := fun r r2 => by rw [hn17, va_up_ne _ _ r2]
      refine W.cs (show 1 + 3 * i + 1 + 2 = 1 + 3 * (i + 1) by omega) (show 24 + 12 * i + 2 + 10 = 24 + 12 * (i + 1) by omega) ?_
      refine ih (i + 1) ze16 (va_up g i (some (zb G + (5 + 3 * i)))) H locs ls (by omega) (by rw [hk2 3 (by omega)]; exact e3) (by rw [hn17]; exact va_up_self _ _ _) (fun k hk => ?_) (fun k hk => ?_) (fun r hr => by rw [ho r (by omega) (by omega)]; exact hfr r hr) hl hZ
      · by_cases y : k = i
        · subst y; rw [va_up_self]
        · rw [va_up_ne _ _ y]; exact hg k (by omega)
      · by_cases y : k = i
        · subst y
          exact ⟨by rw [hk2 _ (by omega), show 6 + 3 * k = 5 + 3 * k + 1 by omega]; exact hq1, by rw [show 6 + 3 * k = 5 + 3 * k + 1 by omega, show 7 + 3 * k = 5 + 3 * k + 1 + 1 by omega]; exact hq2.keep (hk2 _ (by omega)) (hk2 _ (by omega))⟩
        · obtain ⟨a1, a2⟩ := hw k (by omega)
          exact ⟨by rw [ho _ (by omega) (by omega)]; exact a1, a2.keep (ho _ (by omega) (by omega)) (ho _ (by omega) (by omega))⟩
  exact loop 24 0 ze4 _ _ _ ls (by omega) ff6 e4 (fun k hk => absurd hk (Nat.not_lt_zero _)) (fun k hk => absurd hk (Nat.not_lt_zero _)) (fun r hr => by rw [hn5, va_up_ne _ _ (by omega), hn2, va_up_ne _ _ (by omega)]) hl hZ
set_option maxHeartbeats 4000000 in
set_option maxRecDepth 100000 in
theorem c_E_init (l : Launch) {G : zG} {en : Nat → va_E} (e0 : en 77 = .inr (kE, [.null])) : zMc l y_E_init b_E_init 1 1 12 (110) G en (78) [.ref (zb G + (77))] (90) (fun en1 => pT G (adG G) en1 77 kE 9 (fun _ _ => 0) ∧ ∀ r, r < 77 → en1 r = en r) := by
  refine z_metc (by decide) (Nat.le_of_ble_eq_true rfl) ?_
  intro p e s m below meth c ls hF hr hlocks hnam hZ hs0 hl
  have hF : CallFix p m c b_E_init 1 s ([.ref (zb G + (77))] : List Value).toArray zz R_E := hF
  have hnam : meth.name = "<init>" := hnam
  have hl : lv_has ls 1 [(0, .ref (zb G + (77)))] := hl
  refine lv_aload_n hF.1 hF.2.1 d_E_init_0 rfl (lv_at hl 0 rfl) ?_
  refine z_oinit ml_E_3 hF hl.1 d_E_init_1 ⟨(Nat.le_of_ble_eq_true rfl), (Nat.le_of_ble_eq_true rfl)⟩ ?_
  refine lv_aload_n hF.1 hF.2.1 d_E_init_4 rfl (lv_at hl 0 rfl) ?_
  refine lv_bipush (v := (nI (11))) hF.1 hF.2.1 d_E_init_5 (by decide) ?_
  refine lv_bipush (v := (nI (9))) hF.1 hF.2.1 d_E_init_7 (by decide) ?_
  refine z_multi (n := 11) (k := 9) cl_E_9 hF hZ (by omega) (by omega) (by omega) (Nat.le_of_ble_eq_true rfl) (Nat.le_of_ble_eq_true rfl) d_E_init_9 (fun H hZ => ?_)
  obtain ⟨zt, hzt⟩ : ∃ z, z = z_tab G en 78 11 9 := ⟨_, rfl⟩
  have hZ : zH G (adG G) zt (90) s H _ := hZ.to hzt.symm
  have eK : zt 77 = .inr (kE, [.null]) := by rw [hzt]; unfold z_tab; rw [if_neg (by omega), if_neg (by omega)]; exact e0
  refine pF_E_11 hF hZ hnam (77) (by omega) eK (Nat.le_of_ble_eq_true rfl) d_E_init_13 (fun H locs hZ => ?_)
  obtain ⟨ze1, hn2⟩ : ∃ z, z = va_up zt (77) (.inr (kE, [.ref (zb G + (78))])) := ⟨_, rfl⟩
  have hZ : zH G (adG G) ze1 (90) s H _ := hZ.to hn2.symm
  have ff3 : ze1 (77) = .inr (kE, [.ref (zb G + (78))]) := by rw [hn2]; exact va_up_self _ _ _
  refine W.cs (show 0 + 1 + 11 = 12 from rfl) (show 0 + 11 + 11 * 9 = 110 from rfl) ?_
  refine z_vretc hF hr hlocks hZ ⟨⟨ff3, ⟨fun i => if i < 11 then some (zb G + (78 + 1 + i)) else none, ?_, fun i hi => ?_⟩, fun i hi => ?_⟩, fun r hr => ?_⟩ d_E_init_16
  · rw [hn2, va_up_ne _ _ (by omega), hzt]; unfold z_tab; rw [if_pos rfl]
  · dsimp only; rw [if_pos hi]
  · rw [hn2, va_up_ne _ _ (by omega), hzt]; unfold z_tab; rw [if_neg (by omega), if_pos (by omega)]
  · rw [hn2, va_up_ne _ _ (by omega), hzt]; unfold z_tab; rw [if_neg (by omega), if_neg (by omega)]
set_option maxHeartbeats 4000000 in
set_option maxRecDepth 100000 in
theorem c_R_init (l : Launch) {G : zG} {en : Nat → va_E} (e0 : en 90 = .inr (kR, [.null])) : zMc l y_R_init b_R_init 1 1 12 (132) G en (91) [.ref (zb G + (90))] (103) (fun en1 => pT G (adG G) en1 90 kR 11 (fun _ _ => 0) ∧ ∀ r, r < 90 → en1 r = en r) := by
  refine z_metc (by decide) (Nat.le_of_ble_eq_true rfl) ?_
  intro p e s m below meth c ls hF hr hlocks hnam hZ hs0 hl
  have hF : CallFix p m c b_R_init 1 s ([.ref (zb G + (90))] : List Value).toArray zz R_R := hF
  have hnam : meth.name = "<init>" := hnam
  have hl : lv_has ls 1 [(0, .ref (zb G + (90)))] := hl
  refine lv_aload_n hF.1 hF.2.1 d_R_init_0 rfl (lv_at hl 0 rfl) ?_
  refine z_oinit ml_R_3 hF hl.1 d_R_init_1 ⟨(Nat.le_of_ble_eq_true rfl), (Nat.le_of_ble_eq_true rfl)⟩ ?_
  refine lv_aload_n hF.1 hF.2.1 d_R_init_4 rfl (lv_at hl 0 rfl) ?_
  refine lv_bipush (v := (nI (11))) hF.1 hF.2.1 d_R_init_5 (by decide) ?_
  refine lv_bipush (v := (nI (11))) hF.1 hF.2.1 d_R_init_7 (by decide) ?_
  refine z_multi (n := 11) (k := 11) cl_R_9 hF hZ (by omega) (by omega) (by omega) (Nat.le_of_ble_eq_true rfl) (Nat.le_of_ble_eq_true rfl) d_R_init_9 (fun H hZ => ?_)
  obtain ⟨zt, hzt⟩ : ∃ z, z = z_tab G en 91 11 11 := ⟨_, rfl⟩
  have hZ : zH G (adG G) zt (103) s H _ := hZ.to hzt.symm
  have eK : zt 90 = .inr (kR, [.null]) := by rw [hzt]; unfold z_tab; rw [if_neg (by omega), if_neg (by omega)]; exact e0
  refine pF_R_11 hF hZ hnam (90) (by omega) eK (Nat.le_of_ble_eq_true rfl) d_R_init_13 (fun H locs hZ => ?_)
  obtain ⟨ze1, hn2⟩ : ∃ z, z = va_up zt (90) (.inr (kR, [.ref (zb G + (91))])) := ⟨_, rfl⟩
  have hZ : zH G (adG G) ze1 (103) s H _ := hZ.to hn2.symm
  have ff3 : ze1 (90) = .inr (kR, [.ref (zb G + (91))]) := by rw [hn2]; exact va_up_self _ _ _
  refine W.cs (show 0 + 1 + 11 = 12 from rfl) (show 0 + 11 + 11 * 11 = 132 from rfl) ?_
  refine z_vretc hF hr hlocks hZ ⟨⟨ff3, ⟨fun i => if i < 11 then some (zb G + (91 + 1 + i)) else none, ?_, fun i hi => ?_⟩, fun i hi => ?_⟩, fun r hr => ?_⟩ d_R_init_16
  · rw [hn2, va_up_ne _ _ (by omega), hzt]; unfold z_tab; rw [if_pos rfl]
  · dsimp only; rw [if_pos hi]
  · rw [hn2, va_up_ne _ _ (by omega), hzt]; unfold z_tab; rw [if_neg (by omega), if_pos (by omega)]
  · rw [hn2, va_up_ne _ _ (by omega), hzt]; unfold z_tab; rw [if_neg (by omega), if_neg (by omega)]
set_option maxHeartbeats 4000000 in
set_option maxRecDepth 100000 in
theorem c_S_init (l : Launch) {G : zG} {en : Nat → va_E} (e0 : en 0 = .inr (kS, [.null, .null, .null, .null, .null])) : zMc l y_S_init b_S_init 1 4 103 (594) G en (1) [.ref (zb G + (0))] (104) (fun en1 => pS G (adG G) en1 [] (fun k => k) []) := by
  refine z_metc (by decide) (Nat.le_of_ble_eq_true rfl) ?_
  intro p e s m below meth c ls hF hr hlocks hnam hZ hs0 hl
  have hF : CallFix p m c b_S_init 1 s ([.ref (zb G + (0))] : List Value).toArray zz R_S := hF
  have hnam : meth.name = "<init>" := hnam
  have hl : lv_has ls 1 [(0, .ref (zb G + (0)))] := hl
  refine lv_aload_n hF.1 hF.2.1 d_S_init_0 rfl (lv_at hl 0 rfl) ?_
  refine z_oinit ml_S_3 hF hl.1 d_S_init_1 ⟨(Nat.le_of_ble_eq_true rfl), (Nat.le_of_ble_eq_true rfl)⟩ ?_
  refine lv_aload_n hF.1 hF.2.1 d_S_init_4 rfl (lv_at hl 0 rfl) ?_
  refine z_new (ci := kL) (fs := [.null, .int (0)]) t_L u_L t_L_ok rfl cl_S_9 ib_L in_L (fun j hj => by
      match j, hj with
      | 0, _ => rfl
      | 1, _ => rfl) hF hZ (by omega) (Nat.le_of_ble_eq_true rfl) (Nat.le_of_ble_eq_true rfl) d_S_init_5 (fun H hZ => ?_)
  obtain ⟨ze1, hn2⟩ : ∃ z, z = va_up en (1) (.inr (kL, [.null, .int (0)])) := ⟨_, rfl⟩
  have hZ : zH G (adG G) ze1 (2) s H _ := hZ.to hn2.symm
  have ff3 : ze1 (0) = .inr (kS, [.null, .null, .null, .null, .null]) := by rw [hn2, va_up_ne _ _ (by omega)]; exact e0
  have ff4 : ze1 (1) = .inr (kL, [.null, .int (0)]) := by rw [hn2]; exact va_up_self _ _ _
  refine lv_dup hF.1 hF.2.1 d_S_init_8 rfl ?_
  refine lv_bipush (v := (nI (10))) hF.1 hF.2.1 d_S_init_9 (by decide) ?_
  refine z_runI (n := 1) cd_L_init ml_S_11 in_L im_L_init rfl (by decide +kernel) hF hZ (by omega) (1) (c_L_init l (k := 1) (cap := 10) (by omega) (by omega) ff4) ⟨(Nat.le_of_ble_eq_true rfl), (Nat.le_of_ble_eq_true rfl)⟩ ⟨(Nat.le_of_ble_eq_true rfl), (Nat.le_of_ble_eq_true rfl)⟩ rfl hl.1 rfl (Nat.le_of_ble_eq_true rfl) d_S_init_11 (fun en2 H locs hq hZ => ?_)
  obtain ⟨hL, hq2⟩ := hq
  have e0 : en2 0 = .inr (kS, [.null, .null, .null, .null, .null]) := by rw [hq2 0 (by omega) (by omega)]; exact ff3
  refine pF_S_14 hF hZ hnam (0) (by omega) e0 (Nat.le_of_ble_eq_true rfl) d_S_init_14 (fun H locs hZ => ?_)
  obtain ⟨ze5, hn6⟩ : ∃ z, z = va_up en2 (0) (.inr (kS, [.ref (zb G + (1)), .null, .null, .null, .null])) := ⟨_, rfl⟩
  have hZ : zH G (adG G) ze5 (3) s H _ := hZ.to hn6.symm
  have ff7 : ze5 (0) = .inr (kS, [.ref (zb G + (1)), .null, .null, .null, .null]) := by rw [hn6]; exact va_up_self _ _ _
  have hL : pL G (adG G) ze5 1 2 10 [] := hL.keep (by rw [hn6, va_up_ne _ _ (by omega)]) (by rw [hn6, va_up_ne _ _ (by omega)])
  refine lv_aload_n hF.1 hF.2.1 d_S_init_17 rfl (lv_at hl 0 rfl) ?_
  refine z_new (ci := kD) (fs := [.null, .int (0)]) t_D u_D t_D_ok rfl cl_S_18 ib_D in_D (fun j hj => by
      match j, hj with
      | 0, _ => rfl
      | 1, _ => rfl) hF hZ (by omega) (Nat.le_of_ble_eq_true rfl) (Nat.le_of_ble_eq_true rfl) d_S_init_18 (fun H hZ => ?_)
  obtain ⟨ze8, hn9⟩ : ∃ z, z = va_up ze5 (3) (.inr (kD, [.null, .int (0)])) := ⟨_, rfl⟩
  have hZ : zH G (adG G) ze8 (4) s H _ := hZ.to hn9.symm
  have ff10 : ze8 (0) = .inr (kS, [.ref (zb G + (1)), .null, .null, .null, .null]) := by rw [hn9, va_up_ne _ _ (by omega)]; exact ff7
  have ff11 : ze8 (3) = .inr (kD, [.null, .int (0)]) := by rw [hn9]; exact va_up_self _ _ _
  refine lv_dup hF.1 hF.2.1 d_S_init_21 rfl ?_
  have hL : pL G (adG G) ze8 1 2 10 [] := hL.keep (by rw [hn9, va_up_ne _ _ (by omega)]) (by rw [hn9, va_up_ne _ _ (by omega)])
  refine z_runI (n := 0) cd_D_init ml_S_20 in_D im_D_init rfl (by decide +kernel) hF hZ (by omega) (3) (c_D_init l ff11) ⟨(Nat.le_of_ble_eq_true rfl), (Nat.le_of_ble_eq_true rfl)⟩ ⟨(Nat.le_of_ble_eq_true rfl), (Nat.le_of_ble_eq_true rfl)⟩ rfl hl.1 rfl (Nat.le_of_ble_eq_true rfl) d_S_init_22 (fun en3 H locs hq hZ => ?_)
  obtain ⟨hD, hq2⟩ := hq
  have e0 : en3 0 = .inr (kS, [.ref (zb G + (1)), .null, .null, .null, .null]) := by rw [hq2 0 (by omega)]; exact ff10
  have hL : pL G (adG G) en3 1 2 10 [] := hL.keep (hq2 1 (by omega)) (hq2 2 (by omega))
  refine pF_S_21 hF hZ hnam (0) (by omega) e0 (Nat.le_of_ble_eq_true rfl) d_S_init_25 (fun H locs hZ => ?_)
  obtain ⟨ze12, hn13⟩ : ∃ z, z = va_up en3 (0) (.inr (kS, [.ref (zb G + (1)), .ref (zb G + (3)), .null, .null, .null])) := ⟨_, rfl⟩
  have hZ : zH G (adG G) ze12 (77) s H _ := hZ.to hn13.symm
  have ff14 : ze12 (0) = .inr (kS, [.ref (zb G + (1)), .ref (zb G + (3)), .null, .null, .null]) := by rw [hn13]; exact va_up_self _ _ _
  have hL : pL G (adG G) ze12 1 2 10 [] := hL.keep (by rw [hn13, va_up_ne _ _ (by omega)]) (by rw [hn13, va_up_ne _ _ (by omega)])
  have hD : pD G (adG G) ze12 (fun k => k) [] := hD.keep (fun r r1 r2 => by rw [hn13, va_up_ne _ _ (by omega)])
  refine lv_aload_n hF.1 hF.2.1 d_S_init_28 rfl (lv_at hl 0 rfl) ?_
  refine z_new (ci := kE) (fs := [.null]) t_E u_E t_E_ok rfl cl_S_25 ib_E in_E (fun j hj => by
      match j, hj with
      | 0, _ => rfl) hF hZ (by omega) (Nat.le_of_ble_eq_true rfl) (Nat.le_of_ble_eq_true rfl) d_S_init_29 (fun H hZ => ?_)
  obtain ⟨ze15, hn16⟩ : ∃ z, z = va_up ze12 (77) (.inr (kE, [.null])) := ⟨_, rfl⟩
  have hZ : zH G (adG G) ze15 (78) s H _ := hZ.to hn16.symm
  have ff17 : ze15 (0) = .inr (kS, [.ref (zb G + (1)), .ref (zb G + (3)), .null, .null, .null]) := by rw [hn16, va_up_ne _ _ (by omega)]; exact ff14
  have ff18 : ze15 (77) = .inr (kE, [.null]) := by rw [hn16]; exact va_up_self _ _ _
  have hL : pL G (adG G) ze15 1 2 10 [] := hL.keep (by rw [hn16, va_up_ne _ _ (by omega)]) (by rw [hn16, va_up_ne _ _ (by omega)])
  have hD : pD G (adG G) ze15 (fun k => k) [] := hD.keep (fun r r1 r2 => by rw [hn16, va_up_ne _ _ (by omega)])
  refine lv_dup hF.1 hF.2.1 d_S_init_32 rfl ?_
  refine z_runI (n := 0) cd_E_init ml_S_27 in_E im_E_init rfl (by decide +kernel) hF hZ (by omega) (77) (c_E_init l ff18) ⟨(Nat.le_of_ble_eq_true rfl), (Nat.le_of_ble_eq_true rfl)⟩ ⟨(Nat.le_of_ble_eq_true rfl), (Nat.le_of_ble_eq_true rfl)⟩ rfl hl.1 rfl (Nat.le_of_ble_eq_true rfl) d_S_init_33 (fun en4 H locs hq hZ => ?_)
  obtain ⟨hE, hq2⟩ := hq
  have e0 : en4 0 = .inr (kS, [.ref (zb G + (1)), .ref (zb G + (3)), .null, .null, .null]) := by rw [hq2 0 (by omega)]; exact ff17
  have hL : pL G (adG G) en4 1 2 10 [] := hL.keep (hq2 1 (by omega)) (hq2 2 (by omega))
  have hD : pD G (adG G) en4 (fun k => k) [] := hD.keep (fun r r1 r2 => hq2 r (by omega))
  refine pF_S_28 hF hZ hnam (0) (by omega) e0 (Nat.le_of_ble_eq_true rfl) d_S_init_36 (fun H locs hZ => ?_)
  obtain ⟨ze19, hn20⟩ : ∃ z, z = va_up en4 (0) (.inr (kS, [.ref (zb G + (1)), .ref (zb G + (3)), .ref (zb G + (77)), .null, .null])) := ⟨_, rfl⟩
  have hZ : zH G (adG G) ze19 (90) s H _ := hZ.to hn20.symm
  have ff21 : ze19 (0) = .inr (kS, [.ref (zb G + (1)), .ref (zb G + (3)), .ref (zb G + (77)), .null, .null]) := by rw [hn20]; exact va_up_self _ _ _
  have hL : pL G (adG G) ze19 1 2 10 [] := hL.keep (by rw [hn20, va_up_ne _ _ (by omega)]) (by rw [hn20, va_up_ne _ _ (by omega)])
  have hD : pD G (adG G) ze19 (fun k => k) [] := hD.keep (fun r r1 r2 => by rw [hn20, va_up_ne _ _ (by omega)])
  have hE : pT G (adG G) ze19 77 kE 9 (fun _ _ => 0) := hE.keep (fun r r1 r2 => by rw [hn20, va_up_ne _ _ (by omega)])
  refine lv_aload_n hF.1 hF.2.1 d_S_init_39 rfl (lv_at hl 0 rfl) ?_
  refine z_new (ci := kR) (fs := [.null]) t_R u_R t_R_ok rfl cl_S_32 ib_R in_R (fun j hj => by
      match j, hj with
      | 0, _ => rfl) hF hZ (by omega) (Nat.le_of_ble_eq_true rfl) (Nat.le_of_ble_eq_true rfl) d_S_init_40 (fun H hZ => ?_)
  obtain ⟨ze22, hn23⟩ : ∃ z, z = va_up ze19 (90) (.inr (kR, [.null])) := ⟨_, rfl⟩
  have hZ : zH G (adG G) ze22 (91) s H _ := hZ.to hn23.symm
  have ff24 : ze22 (0) = .inr (kS, [.ref (zb G + (1)), .ref (zb G + (3)), .ref (zb G + (77)), .null, .null]) := by rw [hn23, va_up_ne _ _ (by omega)]; exact ff21
  have ff25 : ze22 (90) = .inr (kR, [.null]) := by rw [hn23]; exact va_up_self _ _ _
  have hL : pL G (adG G) ze22 1 2 10 [] := hL.keep (by rw [hn23, va_up_ne _ _ (by omega)]) (by rw [hn23, va_up_ne _ _ (by omega)])
  have hD : pD G (adG G) ze22 (fun k => k) [] := hD.keep (fun r r1 r2 => by rw [hn23, va_up_ne _ _ (by omega)])
  have hE : pT G (adG G) ze22 77 kE 9 (fun _ _ => 0) := hE.keep (fun r r1 r2 => by rw [hn23, va_up_ne _ _ (by omega)])
  refine lv_dup hF.1 hF.2.1 d_S_init_43 rfl ?_
  refine z_runI (n := 0) cd_R_init ml_S_34 in_R im_R_init rfl (by decide +kernel) hF hZ (by omega) (90) (c_R_init l ff25) ⟨(Nat.le_of_ble_eq_true rfl), (Nat.le_of_ble_eq_true rfl)⟩ ⟨(Nat.le_of_ble_eq_true rfl), (Nat.le_of_ble_eq_true rfl)⟩ rfl hl.1 rfl (Nat.le_of_ble_eq_true rfl) d_S_init_44 (fun en5 H locs hq hZ => ?_)
  obtain ⟨hR, hq2⟩ := hq
  have e0 : en5 0 = .inr (kS, [.ref (zb G + (1)), .ref (zb G + (3)), .ref (zb G + (77)), .null, .null]) := by rw [hq2 0 (by omega)]; exact ff24
  have hL : pL G (adG G) en5 1 2 10 [] := hL.keep (hq2 1 (by omega)) (hq2 2 (by omega))
  have hD : pD G (adG G) en5 (fun k => k) [] := hD.keep (fun r r1 r2 => hq2 r (by omega))
  have hE : pT G (adG G) en5 77 kE 9 (fun _ _ => 0) := hE.keep (fun r r1 r2 => hq2 r (by omega))
  refine pF_S_35 hF hZ hnam (0) (by omega) e0 (Nat.le_of_ble_eq_true rfl) d_S_init_47 (fun H locs hZ => ?_)
  obtain ⟨ze26, hn27⟩ : ∃ z, z = va_up en5 (0) (.inr (kS, [.ref (zb G + (1)), .ref (zb G + (3)), .ref (zb G + (77)), .ref (zb G + (90)), .null])) := ⟨_, rfl⟩
  have hZ : zH G (adG G) ze26 (103) s H _ := hZ.to hn27.symm
  have ff28 : ze26 (0) = .inr (kS, [.ref (zb G + (1)), .ref (zb G + (3)), .ref (zb G + (77)), .ref (zb G + (90)), .null]) := by rw [hn27]; exact va_up_self _ _ _
  have hL : pL G (adG G) ze26 1 2 10 [] := hL.keep (by rw [hn27, va_up_ne _ _ (by omega)]) (by rw [hn27, va_up_ne _ _ (by omega)])
  have hD : pD G (adG G) ze26 (fun k => k) [] := hD.keep (fun r r1 r2 => by rw [hn27, va_up_ne _ _ (by omega)])
  have hE : pT G (adG G) ze26 77 kE 9 (fun _ _ => 0) := hE.keep (fun r r1 r2 => by rw [hn27, va_up_ne _ _ (by omega)])
  have hR : pT G (adG G) ze26 90 kR 11 (fun _ _ => 0) := hR.keep (fun r r1 r2 => by rw [hn27, va_up_ne _ _ (by omega)])
  refine lv_aload_n hF.1 hF.2.1 d_S_init_50 rfl (lv_at hl 0 rfl) ?_
  refine lv_bipush (v := (nI (24))) hF.1 hF.2.1 d_S_init_51 (by decide) ?_
  refine z_newi hF hZ (by omega) (by omega) (Nat.le_of_ble_eq_true rfl) (Nat.le_of_ble_eq_true rfl) d_S_init_53 (fun H hZ => ?_)
  obtain ⟨ze29, hn30⟩ : ∃ z, z = va_up ze26 (103) (.inl (zI G, 24, .inl (fun _ => 0))) := ⟨_, rfl⟩
  have hZ : zH G (adG G) ze29 (104) s H _ := hZ.to hn30.symm
  have ff31 : ze29 (0) = .inr (kS, [.ref (zb G + (1)), .ref (zb G + (3)), .ref (zb G + (77)), .ref (zb G + (90)), .null]) := by rw [hn30, va_up_ne _ _ (by omega)]; exact ff28
  have ff32 : ze29 (103) = .inl (zI G, 24, .inl (fun _ => 0)) := by rw [hn30]; exact va_up_self _ _ _
  have hL : pL G (adG G) ze29 1 2 10 [] := hL.keep (by rw [hn30, va_up_ne _ _ (by omega)]) (by rw [hn30, va_up_ne _ _ (by omega)])
  have hD : pD G (adG G) ze29 (fun k => k) [] := hD.keep (fun r r1 r2 => by rw [hn30, va_up_ne _ _ (by omega)])
  have hE : pT G (adG G) ze29 77 kE 9 (fun _ _ => 0) := hE.keep (fun r r1 r2 => by rw [hn30, va_up_ne _ _ (by omega)])
  have hR : pT G (adG G) ze29 90 kR 11 (fun _ _ => 0) := hR.keep (fun r r1 r2 => by rw [hn30, va_up_ne _ _ (by omega)])
  refine pF_S_39 hF hZ hnam (0) (by omega) ff31 (Nat.le_of_ble_eq_true rfl) d_S_init_55 (fun H locs hZ => ?_)
  obtain ⟨ze33, hn34⟩ : ∃ z, z = va_up ze29 (0) (.inr (kS, [.ref (zb G + (1)), .ref (zb G + (3)), .ref (zb G + (77)), .ref (zb G + (90)), .ref (zb G + (103))])) := ⟨_, rfl⟩
  have hZ : zH G (adG G) ze33 (104) s H _ := hZ.to hn34.symm
  have ff35 : ze33 (103) = .inl (zI G, 24, .inl ((fun _ => 0))) := by rw [hn34, va_up_ne _ _ (by omega)]; exact ff32
  have ff36 : ze33 (0) = .inr (kS, [.ref (zb G + (1)), .ref (zb G + (3)), .ref (zb G + (77)), .ref (zb G + (90)), .ref (zb G + (103))]) := by rw [hn34]; exact va_up_self _ _ _
  have hL : pL G (adG G) ze33 1 2 10 [] := hL.keep (by rw [hn34, va_up_ne _ _ (by omega)]) (by rw [hn34, va_up_ne _ _ (by omega)])
  have hD : pD G (adG G) ze33 (fun k => k) [] := hD.keep (fun r r1 r2 => by rw [hn34, va_up_ne _ _ (by omega)])
  have hE : pT G (adG G) ze33 77 kE 9 (fun _ _ => 0) := hE.keep (fun r r1 r2 => by rw [hn34, va_up_ne _ _ (by omega)])
  have hR : pT G (adG G) ze33 90 kR 11 (fun _ _ => 0) := hR.keep (fun r r1 r2 => by rw [hn34, va_up_ne _ _ (by omega)])
  exact z_vretc hF hr hlocks hZ ⟨ff36, hL, hD, ⟨_, hE⟩, ⟨_, hR⟩, _, ff35⟩ d_S_init_58
set_option maxHeartbeats 4000000 in
set_option maxRecDepth 100000 in
theorem c_M_init (l : Launch) {G : zG} {en : Nat → va_E} (e0 : en 104 = .inr (kM, [.null, .int (0), .null, .null, .null, .int (0), .null, .null])) : zMc l y_M_init b_M_init 1 1 6 (601) G en (105) [.ref (zb G + (104))] (111) (fun en1 => pM G (adG G) en1 [] [] ∧ ∀ r, r < 104 → en1 r = en r) := by
  refine z_metc (by decide) (Nat.le_of_ble_eq_true rfl) ?_
  intro p e s m below meth c ls hF hr hlocks hnam hZ hs0 hl
  have hF : CallFix p m c b_M_init 1 s ([.ref (zb G + (104))] : List Value).toArray zz R_M := hF
  have hnam : meth.name = "<init>" := hnam
  have hl : lv_has ls 1 [(0, .ref (zb G + (104)))] := hl
  refine lv_aload_n hF.1 hF.2.1 d_M_init_0 rfl (lv_at hl 0 rfl) ?_
  refine z_oinit ml_M_1 hF hl.1 d_M_init_1 ⟨(Nat.le_of_ble_eq_true rfl), (Nat.le_of_ble_eq_true rfl)⟩ ?_
  refine lv_aload_n hF.1 hF.2.1 d_M_init_4 rfl (lv_at hl 0 rfl) ?_
  refine lv_bipush (v := (nI (10))) hF.1 hF.2.1 d_M_init_5 (by decide) ?_
  refine z_newi hF hZ (by omega) (by omega) (Nat.le_of_ble_eq_true rfl) (Nat.le_of_ble_eq_true rfl) d_M_init_7 (fun H hZ => ?_)
  obtain ⟨ze1, hn2⟩ : ∃ z, z = va_up en (105) (.inl (zI G, 10, .inl (fun _ => 0))) := ⟨_, rfl⟩
  have hZ : zH G (adG G) ze1 (106) s H _ := hZ.to hn2.symm
  have ff3 : ze1 (104) = .inr (kM, [.null, .int (0), .null, .null, .null, .int (0), .null, .null]) := by rw [hn2, va_up_ne _ _ (by omega)]; exact e0
  have ff4 : ze1 (105) = .inl (zI G, 10, .inl (fun _ => 0)) := by rw [hn2]; exact va_up_self _ _ _
  refine pF_M_7 hF hZ hnam (104) (by omega) ff3 (Nat.le_of_ble_eq_true rfl) d_M_init_9 (fun H locs hZ => ?_)
  obtain ⟨ze5, hn6⟩ : ∃ z, z = va_up ze1 (104) (.inr (kM, [.ref (zb G + (105)), .int (0), .null, .null, .null, .int (0), .null, .null])) := ⟨_, rfl⟩
  have hZ : zH G (adG G) ze5 (106) s H _ := hZ.to hn6.symm
  have ff7 : ze5 (105) = .inl (zI G, 10, .inl ((fun _ => 0))) := by rw [hn6, va_up_ne _ _ (by omega)]; exact ff4
  have ff8 : ze5 (104) = .inr (kM, [.ref (zb G + (105)), .int (0), .null, .null, .null, .int (0), .null, .null]) := by rw [hn6]; exact va_up_self _ _ _
  refine lv_aload_n hF.1 hF.2.1 d_M_init_12 rfl (lv_at hl 0 rfl) ?_
  refine lv_sipush (v := (nI (192))) hF.1 hF.2.1 d_M_init_13 (by decide) ?_
  refine z_newi hF hZ (by omega) (by omega) (Nat.le_of_ble_eq_true rfl) (Nat.le_of_ble_eq_true rfl) d_M_init_16 (fun H hZ => ?_)
  obtain ⟨ze9, hn10⟩ : ∃ z, z = va_up ze5 (106) (.inl (zI G, 192, .inl (fun _ => 0))) := ⟨_, rfl⟩
  have hZ : zH G (adG G) ze9 (107) s H _ := hZ.to hn10.symm
  have ff11 : ze9 (105) = .inl (zI G, 10, .inl ((fun _ => 0))) := by rw [hn10, va_up_ne _ _ (by omega)]; exact ff7
  have ff12 : ze9 (104) = .inr (kM, [.ref (zb G + (105)), .int (0), .null, .null, .null, .int (0), .null, .null]) := by rw [hn10, va_up_ne _ _ (by omega)]; exact ff8
  have ff13 : ze9 (106) = .inl (zI G, 192, .inl (fun _ => 0)) := by rw [hn10]; exact va_up_self _ _ _
  refine pF_M_13 hF hZ hnam (104) (by omega) ff12 (Nat.le_of_ble_eq_true rfl) d_M_init_18 (fun H locs hZ => ?_)
  obtain ⟨ze14, hn15⟩ : ∃ z, z = va_up ze9 (104) (.inr (kM, [.ref (zb G + (105)), .int (0), .ref (zb G + (106)), .null, .null, .int (0), .null, .null])) := ⟨_, rfl⟩
  have hZ : zH G (adG G) ze14 (107) s H _ := hZ.to hn15.symm
  have ff16 : ze14 (105) = .inl (zI G, 10, .inl ((fun _ => 0))) := by rw [hn15, va_up_ne _ _ (by omega)]; exact ff11
  have ff17 : ze14 (106) = .inl (zI G, 192, .inl ((fun _ => 0))) := by rw [hn15, va_up_ne _ _ (by omega)]; exact ff13
  have ff18 : ze14 (104) = .inr (kM, [.ref (zb G + (105)), .int (0), .ref (zb G + (106)), .null, .null, .int (0), .null, .null]) := by rw [hn15]; exact va_up_self _ _ _
  refine lv_aload_n hF.1 hF.2.1 d_M_init_21 rfl (lv_at hl 0 rfl) ?_
  refine lv_bipush (v := (nI (24))) hF.1 hF.2.1 d_M_init_22 (by decide) ?_
  refine z_newi hF hZ (by omega) (by omega) (Nat.le_of_ble_eq_true rfl) (Nat.le_of_ble_eq_true rfl) d_M_init_24 (fun H hZ => ?_)
  obtain ⟨ze19, hn20⟩ : ∃ z, z = va_up ze14 (107) (.inl (zI G, 24, .inl (fun _ => 0))) := ⟨_, rfl⟩
  have hZ : zH G (adG G) ze19 (108) s H _ := hZ.to hn20.symm
  have ff21 : ze19 (105) = .inl (zI G, 10, .inl ((fun _ => 0))) := by rw [hn20, va_up_ne _ _ (by omega)]; exact ff16
  have ff22 : ze19 (106) = .inl (zI G, 192, .inl ((fun _ => 0))) := by rw [hn20, va_up_ne _ _ (by omega)]; exact ff17
  have ff23 : ze19 (104) = .inr (kM, [.ref (zb G + (105)), .int (0), .ref (zb G + (106)), .null, .null, .int (0), .null, .null]) := by rw [hn20, va_up_ne _ _ (by omega)]; exact ff18
  have ff24 : ze19 (107) = .inl (zI G, 24, .inl (fun _ => 0)) := by rw [hn20]; exact va_up_self _ _ _
  refine pF_M_16 hF hZ hnam (104) (by omega) ff23 (Nat.le_of_ble_eq_true rfl) d_M_init_26 (fun H locs hZ => ?_)
  obtain ⟨ze25, hn26⟩ : ∃ z, z = va_up ze19 (104) (.inr (kM, [.ref (zb G + (105)), .int (0), .ref (zb G + (106)), .ref (zb G + (107)), .null, .int (0), .null, .null])) := ⟨_, rfl⟩
  have hZ : zH G (adG G) ze25 (108) s H _ := hZ.to hn26.symm
  have ff27 : ze25 (105) = .inl (zI G, 10, .inl ((fun _ => 0))) := by rw [hn26, va_up_ne _ _ (by omega)]; exact ff21
  have ff28 : ze25 (106) = .inl (zI G, 192, .inl ((fun _ => 0))) := by rw [hn26, va_up_ne _ _ (by omega)]; exact ff22
  have ff29 : ze25 (107) = .inl (zI G, 24, .inl ((fun _ => 0))) := by rw [hn26, va_up_ne _ _ (by omega)]; exact ff24
  have ff30 : ze25 (104) = .inr (kM, [.ref (zb G + (105)), .int (0), .ref (zb G + (106)), .ref (zb G + (107)), .null, .int (0), .null, .null]) := by rw [hn26]; exact va_up_self _ _ _
  refine lv_aload_n hF.1 hF.2.1 d_M_init_29 rfl (lv_at hl 0 rfl) ?_
  refine lv_bipush (v := (nI (24))) hF.1 hF.2.1 d_M_init_30 (by decide) ?_
  refine z_newi hF hZ (by omega) (by omega) (Nat.le_of_ble_eq_true rfl) (Nat.le_of_ble_eq_true rfl) d_M_init_32 (fun H hZ => ?_)
  obtain ⟨ze31, hn32⟩ : ∃ z, z = va_up ze25 (108) (.inl (zI G, 24, .inl (fun _ => 0))) := ⟨_, rfl⟩
  have hZ : zH G (adG G) ze31 (109) s H _ := hZ.to hn32.symm
  have ff33 : ze31 (105) = .inl (zI G, 10, .inl ((fun _ => 0))) := by rw [hn32, va_up_ne _ _ (by omega)]; exact ff27
  have ff34 : ze31 (106) = .inl (zI G, 192, .inl ((fun _ => 0))) := by rw [hn32, va_up_ne _ _ (by omega)]; exact ff28
  have ff35 : ze31 (107) = .inl (zI G, 24, .inl ((fun _ => 0))) := by rw [hn32, va_up_ne _ _ (by omega)]; exact ff29
  have ff36 : ze31 (104) = .inr (kM, [.ref (zb G + (105)), .int (0), .ref (zb G + (106)), .ref (zb G + (107)), .null, .int (0), .null, .null]) := by rw [hn32, va_up_ne _ _ (by omega)]; exact ff30
  have ff37 : ze31 (108) = .inl (zI G, 24, .inl (fun _ => 0)) := by rw [hn32]; exact va_up_self _ _ _
  refine pF_M_19 hF hZ hnam (104) (by omega) ff36 (Nat.le_of_ble_eq_true rfl) d_M_init_34 (fun H locs hZ => ?_)
  obtain ⟨ze38, hn39⟩ : ∃ z, z = va_up ze31 (104) (.inr (kM, [.ref (zb G + (105)), .int (0), .ref (zb G + (106)), .ref (zb G + (107)), .ref (zb G + (108)), .int (0), .null, .null])) := ⟨_, rfl⟩
  have hZ : zH G (adG G) ze38 (109) s H _ := hZ.to hn39.symm
  have ff40 : ze38 (105) = .inl (zI G, 10, .inl ((fun _ => 0))) := by rw [hn39, va_up_ne _ _ (by omega)]; exact ff33
  have ff41 : ze38 (106) = .inl (zI G, 192, .inl ((fun _ => 0))) := by rw [hn39, va_up_ne _ _ (by omega)]; exact ff34
  have ff42 : ze38 (107) = .inl (zI G, 24, .inl ((fun _ => 0))) := by rw [hn39, va_up_ne _ _ (by omega)]; exact ff35
  have ff43 : ze38 (108) = .inl (zI G, 24, .inl ((fun _ => 0))) := by rw [hn39, va_up_ne _ _ (by omega)]; exact ff37
  have ff44 : ze38 (104) = .inr (kM, [.ref (zb G + (105)), .int (0), .ref (zb G + (106)), .ref (zb G + (107)), .ref (zb G + (108)), .int (0), .null, .null]) := by rw [hn39]; exact va_up_self _ _ _
  refine lv_aload_n hF.1 hF.2.1 d_M_init_37 rfl (lv_at hl 0 rfl) ?_
  refine lv_bipush (v := (nI (99))) hF.1 hF.2.1 d_M_init_38 (by decide) ?_
  refine z_newi hF hZ (by omega) (by omega) (Nat.le_of_ble_eq_true rfl) (Nat.le_of_ble_eq_true rfl) d_M_init_40 (fun H hZ => ?_)
  obtain ⟨ze45, hn46⟩ : ∃ z, z = va_up ze38 (109) (.inl (zI G, 99, .inl (fun _ => 0))) := ⟨_, rfl⟩
  have hZ : zH G (adG G) ze45 (110) s H _ := hZ.to hn46.symm
  have ff47 : ze45 (105) = .inl (zI G, 10, .inl ((fun _ => 0))) := by rw [hn46, va_up_ne _ _ (by omega)]; exact ff40
  have ff48 : ze45 (106) = .inl (zI G, 192, .inl ((fun _ => 0))) := by rw [hn46, va_up_ne _ _ (by omega)]; exact ff41
  have ff49 : ze45 (107) = .inl (zI G, 24, .inl ((fun _ => 0))) := by rw [hn46, va_up_ne _ _ (by omega)]; exact ff42
  have ff50 : ze45 (108) = .inl (zI G, 24, .inl ((fun _ => 0))) := by rw [hn46, va_up_ne _ _ (by omega)]; exact ff43
  have ff51 : ze45 (104) = .inr (kM, [.ref (zb G + (105)), .int (0), .ref (zb G + (106)), .ref (zb G + (107)), .ref (zb G + (108)), .int (0), .null, .null]) := by rw [hn46, va_up_ne _ _ (by omega)]; exact ff44
  have ff52 : ze45 (109) = .inl (zI G, 99, .inl (fun _ => 0)) := by rw [hn46]; exact va_up_self _ _ _
  refine pF_M_22 hF hZ hnam (104) (by omega) ff51 (Nat.le_of_ble_eq_true rfl) d_M_init_42 (fun H locs hZ => ?_)
  obtain ⟨ze53, hn54⟩ : ∃ z, z = va_up ze45 (104) (.inr (kM, [.ref (zb G + (105)), .int (0), .ref (zb G + (106)), .ref (zb G + (107)), .ref (zb G + (108)), .int (0), .ref (zb G + (109)), .null])) := ⟨_, rfl⟩
  have hZ : zH G (adG G) ze53 (110) s H _ := hZ.to hn54.symm
  have ff55 : ze53 (105) = .inl (zI G, 10, .inl ((fun _ => 0))) := by rw [hn54, va_up_ne _ _ (by omega)]; exact ff47
  have ff56 : ze53 (106) = .inl (zI G, 192, .inl ((fun _ => 0))) := by rw [hn54, va_up_ne _ _ (by omega)]; exact ff48
  have ff57 : ze53 (107) = .inl (zI G, 24, .inl ((fun _ => 0))) := by rw [hn54, va_up_ne _ _ (by omega)]; exact ff49
  have ff58 : ze53 (108) = .inl (zI G, 24, .inl ((fun _ => 0))) := by rw [hn54, va_up_ne _ _ (by omega)]; exact ff50
  have ff59 : ze53 (109) = .inl (zI G, 99, .inl ((fun _ => 0))) := by rw [hn54, va_up_ne _ _ (by omega)]; exact ff52
  have ff60 : ze53 (104) = .inr (kM, [.ref (zb G + (105)), .int (0), .ref (zb G + (106)), .ref (zb G + (107)), .ref (zb G + (108)), .int (0), .ref (zb G + (109)), .null]) := by rw [hn54]; exact va_up_self _ _ _
  refine lv_aload_n hF.1 hF.2.1 d_M_init_45 rfl (lv_at hl 0 rfl) ?_
  refine lv_sipush (v := (nI (252))) hF.1 hF.2.1 d_M_init_46 (by decide) ?_
  refine z_newl hF hZ (by omega) (by omega) (Nat.le_of_ble_eq_true rfl) (Nat.le_of_ble_eq_true rfl) d_M_init_49 (fun H hZ => ?_)
  obtain ⟨ze61, hn62⟩ : ∃ z, z = va_up ze53 (110) (.inl (zJ G, 252, .inr (.inl (fun _ => 0)))) := ⟨_, rfl⟩
  have hZ : zH G (adG G) ze61 (111) s H _ := hZ.to hn62.symm
  have ff63 : ze61 (105) = .inl (zI G, 10, .inl ((fun _ => 0))) := by rw [hn62, va_up_ne _ _ (by omega)]; exact ff55
  have ff64 : ze61 (106) = .inl (zI G, 192, .inl ((fun _ => 0))) := by rw [hn62, va_up_ne _ _ (by omega)]; exact ff56
  have ff65 : ze61 (107) = .inl (zI G, 24, .inl ((fun _ => 0))) := by rw [hn62, va_up_ne _ _ (by omega)]; exact ff57
  have ff66 : ze61 (108) = .inl (zI G, 24, .inl ((fun _ => 0))) := by rw [hn62, va_up_ne _ _ (by omega)]; exact ff58
  have ff67 : ze61 (109) = .inl (zI G, 99, .inl ((fun _ => 0))) := by rw [hn62, va_up_ne _ _ (by omega)]; exact ff59
  have ff68 : ze61 (104) = .inr (kM, [.ref (zb G + (105)), .int (0), .ref (zb G + (106)), .ref (zb G + (107)), .ref (zb G + (108)), .int (0), .ref (zb G + (109)), .null]) := by rw [hn62, va_up_ne _ _ (by omega)]; exact ff60
  have ff69 : ze61 (110) = .inl (zJ G, 252, .inr (.inl (fun _ => 0))) := by rw [hn62]; exact va_up_self _ _ _
  refine pF_M_25 hF hZ hnam (104) (by omega) ff68 (Nat.le_of_ble_eq_true rfl) d_M_init_51 (fun H locs hZ => ?_)
  obtain ⟨ze70, hn71⟩ : ∃ z, z = va_up ze61 (104) (.inr (kM, [.ref (zb G + (105)), .int (0), .ref (zb G + (106)), .ref (zb G + (107)), .ref (zb G + (108)), .int (0), .ref (zb G + (109)), .ref (zb G + (110))])) := ⟨_, rfl⟩
  have hZ : zH G (adG G) ze70 (111) s H _ := hZ.to hn71.symm
  have ff72 : ze70 (105) = .inl (zI G, 10, .inl ((fun _ => 0))) := by rw [hn71, va_up_ne _ _ (by omega)]; exact ff63
  have ff73 : ze70 (106) = .inl (zI G, 192, .inl ((fun _ => 0))) := by rw [hn71, va_up_ne _ _ (by omega)]; exact ff64
  have ff74 : ze70 (107) = .inl (zI G, 24, .inl ((fun _ => 0))) := by rw [hn71, va_up_ne _ _ (by omega)]; exact ff65
  have ff75 : ze70 (108) = .inl (zI G, 24, .inl ((fun _ => 0))) := by rw [hn71, va_up_ne _ _ (by omega)]; exact ff66
  have ff76 : ze70 (109) = .inl (zI G, 99, .inl ((fun _ => 0))) := by rw [hn71, va_up_ne _ _ (by omega)]; exact ff67
  have ff77 : ze70 (110) = .inl (zJ G, 252, .inr (.inl ((fun _ => 0)))) := by rw [hn71, va_up_ne _ _ (by omega)]; exact ff69
  have ff78 : ze70 (104) = .inr (kM, [.ref (zb G + (105)), .int (0), .ref (zb G + (106)), .ref (zb G + (107)), .ref (zb G + (108)), .int (0), .ref (zb G + (109)), .ref (zb G + (110))]) := by rw [hn71]; exact va_up_self _ _ _
  refine lv_aload_n hF.1 hF.2.1 d_M_init_54 rfl (lv_at hl 0 rfl) ?_
  refine lv_iconst (v := (nI (0))) hF.1 hF.2.1 d_M_init_55 (by decide) ?_
  refine pf_M_29 hF hZ (104) (by omega) ff78 (Nat.le_of_ble_eq_true rfl) d_M_init_56 (fun H locs hZ => ?_)
  obtain ⟨ze79, hn80⟩ : ∃ z, z = va_up ze70 (104) (.inr (kM, [.ref (zb G + (105)), .int (nI (0)), .ref (zb G + (106)), .ref (zb G + (107)), .ref (zb G + (108)), .int (0), .ref (zb G + (109)), .ref (zb G + (110))])) := ⟨_, rfl⟩
  have hZ : zH G (adG G) ze79 (111) s H _ := hZ.to hn80.symm
  have ff81 : ze79 (105) = .inl (zI G, 10, .inl ((fun _ => 0))) := by rw [hn80, va_up_ne _ _ (by omega)]; exact ff72
  have ff82 : ze79 (106) = .inl (zI G, 192, .inl ((fun _ => 0))) := by rw [hn80, va_up_ne _ _ (by omega)]; exact ff73
  have ff83 : ze79 (107) = .inl (zI G, 24, .inl ((fun _ => 0))) := by rw [hn80, va_up_ne _ _ (by omega)]; exact ff74
  have ff84 : ze79 (108) = .inl (zI G, 24, .inl ((fun _ => 0))) := by rw [hn80, va_up_ne _ _ (by omega)]; exact ff75
  have ff85 : ze79 (109) = .inl (zI G, 99, .inl ((fun _ => 0))) := by rw [hn80, va_up_ne _ _ (by omega)]; exact ff76
  have ff86 : ze79 (110) = .inl (zJ G, 252, .inr (.inl ((fun _ => 0)))) := by rw [hn80, va_up_ne _ _ (by omega)]; exact ff77
  have ff87 : ze79 (104) = .inr (kM, [.ref (zb G + (105)), .int (nI (0)), .ref (zb G + (106)), .ref (zb G + (107)), .ref (zb G + (108)), .int (0), .ref (zb G + (109)), .ref (zb G + (110))]) := by rw [hn80]; exact va_up_self _ _ _
  exact z_vretc hF hr hlocks hZ ⟨⟨ff87, Nat.zero_le _, w26_nil, Nat.zero_le _, ⟨_, ff81, fun i hi => absurd hi (Nat.not_lt_zero _)⟩, ⟨_, _, _, ff82, ff83, ff84, fun w v hw => by simp at hw⟩, ⟨_, ff85⟩, _, ff86⟩, fun r hr => by
      rw [hn80, va_up_ne _ _ (by omega), hn71, va_up_ne _ _ (by omega), hn62, va_up_ne _ _ (by omega), hn54, va_up_ne _ _ (by omega), hn46, va_up_ne _ _ (by omega), hn39, va_up_ne _ _ (by omega), hn32, va_up_ne _ _ (by omega), hn26, va_up_ne _ _ (by omega), hn20, va_up_ne _ _ (by omega), hn15, va_up_ne _ _ (by omega), hn10, va_up_ne _ _ (by omega), hn6, va_up_ne _ _ (by omega), hn2, va_up_ne _ _ (by omega)]⟩ d_M_init_59
