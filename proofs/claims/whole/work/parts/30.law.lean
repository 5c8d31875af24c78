theorem lw_gt {L i : Nat} (hL : L < 2 ^ 30) (hi : i < 2 ^ 30) : nI L - nI 3 < nI i ↔ L < i + 3 := by
  rw [Int32.lt_iff_toInt_lt, pk_sub_toInt hL (by omega), nI_toInt (by omega)]; omega
theorem ix_no {k : Int32} {n j : Nat} (hn : n < 2 ^ 31) (hj : j < n) (hk : k = nI j) (h : k < 0 ∨ nI n ≤ k) : False := by
  subst hk
  rcases h with h | h
  · exact nI_pos (by omega) h
  · have := (nI_leI hn (by omega)).mp h; omega
set_option maxHeartbeats 4000000 in
set_option maxRecDepth 100000 in
/-- YOUR PART: from the entry, for every script of at most 1536 ints, the law comes to its end with true -/
theorem whole_start {p : Program} {e : Env} {s : State} {m : MethodId} {below : List Frame} {meth : Method} {c : Code} (l : Launch) {b L : Nat} {xs : Nat → Int32} (hL : L ≤ 1536) (C0 : lw_At p s m meth c b L xs) : W p l e room_1 s m #[Value.ref b] below meth c s.heap [] 0 0 (lw_Z below #[Value.ref b] s) (entryFrame m ([Value.ref b] : List Value).toArray 4) := by
  obtain ⟨hx, hb, hr, hml, hown, hts, hX, hbl, hlocks, -⟩ := C0
  obtain ⟨G, hG, hZ0⟩ := z_start hts
  have hF : CallFix p m c b_A_law 4 s #[Value.ref b] zz R_A := ⟨hx, hb, hml, hown, fun w hw => hts w (zz_sub hw)⟩
  have hl := lv_entry ([Value.ref b]) (n := 4) (Nat.le_of_ble_eq_true rfl)
  rw [lg_entry_eq]
  generalize (lg_sl ([Value.ref b]) ++ List.replicate (4 - (lg_sl ([Value.ref b])).length) Slot.unset).toArray = ls at hl ⊢
  have hl : lv_has ls 4 [(0, .ref (b))] := hl
  obtain ⟨en, -⟩ : ∃ z : Nat → va_E, z = fun _ => .inr (0, []) := ⟨_, rfl⟩
  have hZ := hZ0 en
  have loop : ∀ (n i : Nat) (en : Nat → va_E) (T : List Nat) (sg : Nat → Nat) (C mw : List wd_W) (H : Heap) (locs : List Loc) (ls : Array Slot), L ≤ i + n → i ≤ 1539 → pS G (adG G) en T sg C → pM G (adG G) en T mw → C.Perm mw → wd_so C → lv_has ls 4 [(3, .int (nI (i))), (2, .ref (zb G + (104))), (1, .ref (zb G + (0))), (0, .ref (b))] → zH G (adG G) en 111 s H locs → W p l e room_1 s m #[Value.ref b] below meth c H locs 600000 7302250 (lw_Z below #[Value.ref b] s) (F0 m 18 ls []) := by
    intro n
    induction n with
    | zero =>
      intro i en T sg C mw H locs ls hin hi hS hM hpm hso hl hZ
      refine lv_iload_n hF.1 hF.2.1 d_A_law_18 rfl (lv_at hl 0 rfl) ?_
      refine lv_aload_n hF.1 hF.2.1 d_A_law_19 rfl (lv_at hl 3 rfl) ?_
      refine z_slen hF hX hbl hG hZ d_A_law_20 ?_
      refine lv_iconst (v := (nI (3))) hF.1 hF.2.1 d_A_law_21 (by decide) ?_
      refine lv_isub hF.1 hF.2.1 d_A_law_22 ?_
      refine z_top (y := (nI L - nI 3)) rfl ?_
      refine lv_icmp_gt (tgt := 491) hF.1 hF.2.1 d_A_law_23 (by decide) (fun _ => ?_) (fun h => absurd ((lw_gt (by omega) (by omega)).mpr (by omega)) h)
      refine lv_iconst (v := 1) hF.1 hF.2.1 d_A_law_491 (by decide) ?_
      refine va_forget (fun q hq => ?_) (lw_ret hx hb hr hlocks d_A_law_492)
      have := hZ.2.1.2.2 q hq
      have this : zb G ≤ q.base := this
      omega
    | succ n ih =>
      intro i en T sg C mw H locs ls hin hi hS hM hpm hso hl hZ
      by_cases hend : L < i + 3
      · refine lv_iload_n hF.1 hF.2.1 d_A_law_18 rfl (lv_at hl 0 rfl) ?_
        refine lv_aload_n hF.1 hF.2.1 d_A_law_19 rfl (lv_at hl 3 rfl) ?_
        refine z_slen hF hX hbl hG hZ d_A_law_20 ?_
        refine lv_iconst (v := (nI (3))) hF.1 hF.2.1 d_A_law_21 (by decide) ?_
        refine lv_isub hF.1 hF.2.1 d_A_law_22 ?_
        refine z_top (y := (nI L - nI 3)) rfl ?_
        refine lv_icmp_gt (tgt := 491) hF.1 hF.2.1 d_A_law_23 (by decide) (fun _ => ?_) (fun h => absurd ((lw_gt (by omega) (by omega)).mpr (by omega)) h)
        refine lv_iconst (v := 1) hF.1 hF.2.1 d_A_law_491 (by decide) ?_
        refine va_forget (fun q hq => ?_) (lw_ret hx hb hr hlocks d_A_law_492)
        have := hZ.2.1.2.2 q hq
        have this : zb G ≤ q.base := this
        omega
      · have nxt : ∀ (en1 : Nat → va_E) (T1 : List Nat) (sg1 : Nat → Nat) (C1 mw1 : List wd_W) (H : Heap) (locs : List Loc) (ls : Array Slot), pS G (adG G) en1 T1 sg1 C1 → pM G (adG G) en1 T1 mw1 → C1.Perm mw1 → wd_so C1 → lv_has ls 4 [(3, .int (nI (i))), (2, .ref (zb G + (104))), (1, .ref (zb G + (0))), (0, .ref (b))] → zH G (adG G) en1 111 s H locs → W p l e room_1 s m #[Value.ref b] below meth c H locs 600000 7302250 (lw_Z below #[Value.ref b] s) (F0 m 485 ls []) := by
          intro en1 T1 sg1 C1 mw1 H locs ls hS hM hpm hso hl hZ
          refine lv_iinc (k := 0) (v := (nI (i + 3))) hF.1 hF.2.1 d_A_law_485 hl rfl (three_p (i)) (by decide) rfl (fun ls hl => ?_)
          have hl : lv_has ls 4 [(3, .int (nI (i + 3))), (2, .ref (zb G + (104))), (1, .ref (zb G + (0))), (0, .ref (b))] := hl
          refine lv_goto (tgt := 18) hF.1 hF.2.1 d_A_law_488 (by decide) ?_
          exact ih (i + 3) en1 T1 sg1 C1 mw1 H locs ls (by omega) (by omega) hS hM hpm hso hl hZ
        have hsD := hS.2.2.1
        have hC24 : C.length ≤ 24 := hsD.2.1
        have hT10 : T.length ≤ 10 := hS.2.1.2.1
        have hlen := hpm.length_eq
        obtain ⟨j, hj, hje⟩ := pk_andE (xs i) (m := nI 31) 5 (by decide)
        have hj : j < 32 := hj
        refine lv_iload_n hF.1 hF.2.1 d_A_law_18 rfl (lv_at hl 0 rfl) ?_
        refine lv_aload_n hF.1 hF.2.1 d_A_law_19 rfl (lv_at hl 3 rfl) ?_
        refine z_slen hF hX hbl hG hZ d_A_law_20 ?_
        refine lv_iconst (v := (nI (3))) hF.1 hF.2.1 d_A_law_21 (by decide) ?_
        refine lv_isub hF.1 hF.2.1 d_A_law_22 ?_
        refine z_top (y := (nI L - nI 3)) rfl ?_
        refine lv_icmp_gt (tgt := 491) hF.1 hF.2.1 d_A_law_23 (by decide) (fun h => absurd h (fun z => by have := (lw_gt (by omega) (by omega)).mp z; omega)) (fun _ => ?_)
        refine lv_aload_n hF.1 hF.2.1 d_A_law_26 rfl (lv_at hl 3 rfl) ?_
        refine lv_iload_n hF.1 hF.2.1 d_A_law_27 rfl (lv_at hl 0 rfl) ?_
        refine z_sld hF hX hbl hG hL hZ (i) (by omega) d_A_law_28 ?_
        refine lv_bipush (v := (nI (31))) hF.1 hF.2.1 d_A_law_29 (by decide) ?_
        refine lv_iand hF.1 hF.2.1 d_A_law_31 ?_
        refine z_top (y := (nI (j))) hje ?_
        rcases (show j = 0 ∨ j = 1 ∨ j = 2 ∨ j = 3 ∨ j = 4 ∨ j = 5 ∨ j = 6 ∨ j = 7 ∨ j = 8 ∨ j = 9 ∨ j = 10 ∨ j = 11 ∨ j = 12 ∨ j = 13 ∨ j = 14 ∨ j = 15 ∨ j = 16 ∨ 17 ≤ j by omega) with rfl | rfl | rfl | rfl | rfl | rfl | rfl | rfl | rfl | rfl | rfl | rfl | rfl | rfl | rfl | rfl | rfl | hj17
        · refine lv_tableIn (tgt := 116) (off := 84) hF.1 hF.2.1 d_A_law_32 (by decide) (by decide) (by decide) (by decide) ?_
          rcases pk_ix (xs (i + 1)) (n := 26) (by omega) with h3 | h3 | ⟨v, hv, hxv⟩
          · refine lv_aload_n hF.1 hF.2.1 d_A_law_116 rfl (lv_at hl 2 rfl) ?_
            refine lv_aload_n hF.1 hF.2.1 d_A_law_117 rfl (lv_at hl 3 rfl) ?_
            refine lv_iload_n hF.1 hF.2.1 d_A_law_118 rfl (lv_at hl 0 rfl) ?_
            refine lv_iconst (v := (nI (1))) hF.1 hF.2.1 d_A_law_119 (by decide) ?_
            refine lv_iadd hF.1 hF.2.1 d_A_law_120 ?_
            refine z_top (nI_add (i) (1)) ?_
            refine z_sld hF hX hbl hG hL hZ (i + 1) (by omega) d_A_law_121 ?_
            refine z_calli hZ (z_run cw_A_13 hF hZ (0) (c_S_keyNo l (ad := adG G) (by omega) hS (Or.inl h3)) (by decide) (by omega) hS.1 rfl rfl hl.1 rfl (Nat.le_of_ble_eq_true rfl) d_A_law_122) (fun v en1 H locs hq hZ => ?_)
            obtain ⟨hv1, he⟩ := hq
            subst hv1
            have hZ := hZ.to he
            refine lv_aload_n hF.1 hF.2.1 d_A_law_125 rfl (lv_at hl 1 rfl) ?_
            refine lv_aload_n hF.1 hF.2.1 d_A_law_126 rfl (lv_at hl 3 rfl) ?_
            refine lv_iload_n hF.1 hF.2.1 d_A_law_127 rfl (lv_at hl 0 rfl) ?_
            refine lv_iconst (v := (nI (1))) hF.1 hF.2.1 d_A_law_128 (by decide) ?_
            refine lv_iadd hF.1 hF.2.1 d_A_law_129 ?_
            refine z_top (nI_add (i) (1)) ?_
            refine z_sld hF hX hbl hG hL hZ (i + 1) (by omega) d_A_law_130 ?_
            refine z_calli hZ (z_run cw_A_17 hF hZ (104) (c_M_keyNo l (ad := adG G) (by omega) hM (Or.inl h3)) (by decide) (by omega) hM.1 rfl rfl hl.1 rfl (Nat.le_of_ble_eq_true rfl) d_A_law_131) (fun v2 en2 H locs hq hZ => ?_)
            obtain ⟨hv2, he⟩ := hq
            subst hv2
            have hZ := hZ.to he
            refine lv_icmp_eq (tgt := 485) hF.1 hF.2.1 d_A_law_134 (by decide) (fun _ => ?_) (fun h => absurd rfl h)
            exact nxt en (T) (sg) (C) (mw) H locs ls hS hM hpm hso hl hZ
          · refine lv_aload_n hF.1 hF.2.1 d_A_law_116 rfl (lv_at hl 2 rfl) ?_
            refine lv_aload_n hF.1 hF.2.1 d_A_law_117 rfl (lv_at hl 3 rfl) ?_
            refine lv_iload_n hF.1 hF.2.1 d_A_law_118 rfl (lv_at hl 0 rfl) ?_
            refine lv_iconst (v := (nI (1))) hF.1 hF.2.1 d_A_law_119 (by decide) ?_
            refine lv_iadd hF.1 hF.2.1 d_A_law_120 ?_
            refine z_top (nI_add (i) (1)) ?_
            refine z_sld hF hX hbl hG hL hZ (i + 1) (by omega) d_A_law_121 ?_
            refine z_calli hZ (z_run cw_A_13 hF hZ (0) (c_S_keyNo l (ad := adG G) (by omega) hS (Or.inr (Or.inl h3))) (by decide) (by omega) hS.1 rfl rfl hl.1 rfl (Nat.le_of_ble_eq_true rfl) d_A_law_122) (fun v en1 H locs hq hZ => ?_)
            obtain ⟨hv1, he⟩ := hq
            subst hv1
            have hZ := hZ.to he
            refine lv_aload_n hF.1 hF.2.1 d_A_law_125 rfl (lv_at hl 1 rfl) ?_
            refine lv_aload_n hF.1 hF.2.1 d_A_law_126 rfl (lv_at hl 3 rfl) ?_
            refine lv_iload_n hF.1 hF.2.1 d_A_law_127 rfl (lv_at hl 0 rfl) ?_
            refine lv_iconst (v := (nI (1))) hF.1 hF.2.1 d_A_law_128 (by decide) ?_
            refine lv_iadd hF.1 hF.2.1 d_A_law_129 ?_
            refine z_top (nI_add (i) (1)) ?_
            refine z_sld hF hX hbl hG hL hZ (i + 1) (by omega) d_A_law_130 ?_
            refine z_calli hZ (z_run cw_A_17 hF hZ (104) (c_M_keyNo l (ad := adG G) (by omega) hM (Or.inr (Or.inl h3))) (by decide) (by omega) hM.1 rfl rfl hl.1 rfl (Nat.le_of_ble_eq_true rfl) d_A_law_131) (fun v2 en2 H locs hq hZ => ?_)
            obtain ⟨hv2, he⟩ := hq
            subst hv2
            have hZ := hZ.to he
            refine lv_icmp_eq (tgt := 485) hF.1 hF.2.1 d_A_law_134 (by decide) (fun _ => ?_) (fun h => absurd rfl h)
            exact nxt en (T) (sg) (C) (mw) H locs ls hS hM hpm hso hl hZ
          · by_cases hlt : T.length < 10
            · refine lv_aload_n hF.1 hF.2.1 d_A_law_116 rfl (lv_at hl 2 rfl) ?_
              refine lv_aload_n hF.1 hF.2.1 d_A_law_117 rfl (lv_at hl 3 rfl) ?_
              refine lv_iload_n hF.1 hF.2.1 d_A_law_118 rfl (lv_at hl 0 rfl) ?_
              refine lv_iconst (v := (nI (1))) hF.1 hF.2.1 d_A_law_119 (by decide) ?_
              refine lv_iadd hF.1 hF.2.1 d_A_law_120 ?_
              refine z_top (nI_add (i) (1)) ?_
              refine z_sld hF hX hbl hG hL hZ (i + 1) (by omega) d_A_law_121 ?_
              refine z_top (y := (nI (v))) hxv ?_
              refine z_calli hZ (z_run cw_A_13 hF hZ (0) (c_S_key l (ad := adG G) (by omega) hS hv hlt) (by decide) (by omega) hS.1 rfl rfl hl.1 rfl (Nat.le_of_ble_eq_true rfl) d_A_law_122) (fun v en1 H locs hq hZ => ?_)
              obtain ⟨hv1, hS, hf1⟩ := hq
              subst hv1
              have hM := hM.low hf1
              refine lv_aload_n hF.1 hF.2.1 d_A_law_125 rfl (lv_at hl 1 rfl) ?_
              refine lv_aload_n hF.1 hF.2.1 d_A_law_126 rfl (lv_at hl 3 rfl) ?_
              refine lv_iload_n hF.1 hF.2.1 d_A_law_127 rfl (lv_at hl 0 rfl) ?_
              refine lv_iconst (v := (nI (1))) hF.1 hF.2.1 d_A_law_128 (by decide) ?_
              refine lv_iadd hF.1 hF.2.1 d_A_law_129 ?_
              refine z_top (nI_add (i) (1)) ?_
              refine z_sld hF hX hbl hG hL hZ (i + 1) (by omega) d_A_law_130 ?_
              refine z_top (y := (nI (v))) hxv ?_
              refine z_calli hZ (z_run cw_A_17 hF hZ (104) (c_M_key l (ad := adG G) (by omega) hM hv hlt) (by decide) (by omega) hM.1 rfl rfl hl.1 rfl (Nat.le_of_ble_eq_true rfl) d_A_law_131) (fun v2 en2 H locs hq hZ => ?_)
              obtain ⟨hv2, hM, hf2⟩ := hq
              subst hv2
              have hS := hS.high hf2
              refine lv_icmp_eq (tgt := 485) hF.1 hF.2.1 d_A_law_134 (by decide) (fun _ => ?_) (fun h => absurd rfl h)
              exact nxt en2 (T ++ [v]) (sg) (C) (mw) H locs ls hS hM hpm hso hl hZ
            · refine lv_aload_n hF.1 hF.2.1 d_A_law_116 rfl (lv_at hl 2 rfl) ?_
              refine lv_aload_n hF.1 hF.2.1 d_A_law_117 rfl (lv_at hl 3 rfl) ?_
              refine lv_iload_n hF.1 hF.2.1 d_A_law_118 rfl (lv_at hl 0 rfl) ?_
              refine lv_iconst (v := (nI (1))) hF.1 hF.2.1 d_A_law_119 (by decide) ?_
              refine lv_iadd hF.1 hF.2.1 d_A_law_120 ?_
              refine z_top (nI_add (i) (1)) ?_
              refine z_sld hF hX hbl hG hL hZ (i + 1) (by omega) d_A_law_121 ?_
              refine z_calli hZ (z_run cw_A_13 hF hZ (0) (c_S_keyNo l (ad := adG G) (by omega) hS (Or.inr (Or.inr (by omega)))) (by decide) (by omega) hS.1 rfl rfl hl.1 rfl (Nat.le_of_ble_eq_true rfl) d_A_law_122) (fun v en1 H locs hq hZ => ?_)
              obtain ⟨hv1, he⟩ := hq
              subst hv1
              have hZ := hZ.to he
              refine lv_aload_n hF.1 hF.2.1 d_A_law_125 rfl (lv_at hl 1 rfl) ?_
              refine lv_aload_n hF.1 hF.2.1 d_A_law_126 rfl (lv_at hl 3 rfl) ?_
              refine lv_iload_n hF.1 hF.2.1 d_A_law_127 rfl (lv_at hl 0 rfl) ?_
              refine lv_iconst (v := (nI (1))) hF.1 hF.2.1 d_A_law_128 (by decide) ?_
              refine lv_iadd hF.1 hF.2.1 d_A_law_129 ?_
              refine z_top (nI_add (i) (1)) ?_
              refine z_sld hF hX hbl hG hL hZ (i + 1) (by omega) d_A_law_130 ?_
              refine z_calli hZ (z_run cw_A_17 hF hZ (104) (c_M_keyNo l (ad := adG G) (by omega) hM (Or.inr (Or.inr (by omega)))) (by decide) (by omega) hM.1 rfl rfl hl.1 rfl (Nat.le_of_ble_eq_true rfl) d_A_law_131) (fun v2 en2 H locs hq hZ => ?_)
              obtain ⟨hv2, he⟩ := hq
              subst hv2
              have hZ := hZ.to he
              refine lv_icmp_eq (tgt := 485) hF.1 hF.2.1 d_A_law_134 (by decide) (fun _ => ?_) (fun h => absurd rfl h)
              exact nxt en (T) (sg) (C) (mw) H locs ls hS hM hpm hso hl hZ
        · refine lv_tableIn (tgt := 139) (off := 107) hF.1 hF.2.1 d_A_law_32 (by decide) (by decide) (by decide) (by decide) ?_
          by_cases hlt : 0 < T.length
          · refine lv_aload_n hF.1 hF.2.1 d_A_law_139 rfl (lv_at hl 2 rfl) ?_
            refine z_calli hZ (z_run cw_A_18 hF hZ (0) (c_S_back l (ad := adG G) (by omega) hS hlt) (by decide) (by omega) hS.1 rfl rfl hl.1 rfl (Nat.le_of_ble_eq_true rfl) d_A_law_140) (fun v en1 H locs hq hZ => ?_)
            obtain ⟨hv1, hS, hf1⟩ := hq
            subst hv1
            have hM := hM.low hf1
            refine lv_aload_n hF.1 hF.2.1 d_A_law_143 rfl (lv_at hl 1 rfl) ?_
            refine z_calli hZ (z_run cw_A_22 hF hZ (104) (c_M_back l (ad := adG G) (by omega) hM hlt) (by decide) (by omega) hM.1 rfl rfl hl.1 rfl (Nat.le_of_ble_eq_true rfl) d_A_law_144) (fun v2 en2 H locs hq hZ => ?_)
            obtain ⟨hv2, hM, hf2⟩ := hq
            subst hv2
            have hS := hS.high hf2
            refine lv_icmp_eq (tgt := 485) hF.1 hF.2.1 d_A_law_147 (by decide) (fun _ => ?_) (fun h => absurd rfl h)
            exact nxt en2 (T.take (T.length - 1)) (sg) (C) (mw) H locs ls hS hM hpm hso hl hZ
          · refine lv_aload_n hF.1 hF.2.1 d_A_law_139 rfl (lv_at hl 2 rfl) ?_
            refine z_calli hZ (z_run cw_A_18 hF hZ (0) (c_S_backNo l (ad := adG G) (by omega) hS (by omega)) (by decide) (by omega) hS.1 rfl rfl hl.1 rfl (Nat.le_of_ble_eq_true rfl) d_A_law_140) (fun v en1 H locs hq hZ => ?_)
            obtain ⟨hv1, he⟩ := hq
            subst hv1
            have hZ := hZ.to he
            refine lv_aload_n hF.1 hF.2.1 d_A_law_143 rfl (lv_at hl 1 rfl) ?_
            refine z_calli hZ (z_run cw_A_22 hF hZ (104) (c_M_backNo l (ad := adG G) (by omega) hM (by omega)) (by decide) (by omega) hM.1 rfl rfl hl.1 rfl (Nat.le_of_ble_eq_true rfl) d_A_law_144) (fun v2 en2 H locs hq hZ => ?_)
            obtain ⟨hv2, he⟩ := hq
            subst hv2
            have hZ := hZ.to he
            refine lv_icmp_eq (tgt := 485) hF.1 hF.2.1 d_A_law_147 (by decide) (fun _ => ?_) (fun h => absurd rfl h)
            exact nxt en (T) (sg) (C) (mw) H locs ls hS hM hpm hso hl hZ
        · refine lv_tableIn (tgt := 152) (off := 120) hF.1 hF.2.1 d_A_law_32 (by decide) (by decide) (by decide) (by decide) ?_
          refine lv_aload_n hF.1 hF.2.1 d_A_law_152 rfl (lv_at hl 2 rfl) ?_
          refine z_callv hZ (z_run cw_A_23 hF hZ (0) (c_S_wipe l (ad := adG G) (by omega) hS) (by decide) (by omega) hS.1 rfl rfl hl.1 rfl (Nat.le_of_ble_eq_true rfl) d_A_law_153) (fun en1 H locs hq hZ => ?_)
          obtain ⟨hS, hf1⟩ := hq
          have hM := hM.low hf1
          refine lv_aload_n hF.1 hF.2.1 d_A_law_156 rfl (lv_at hl 1 rfl) ?_
          refine z_callv hZ (z_run cw_A_26 hF hZ (104) (c_M_wipe l (ad := adG G) (by omega) hM) (by decide) (by omega) hM.1 rfl rfl hl.1 rfl (Nat.le_of_ble_eq_true rfl) d_A_law_157) (fun en2 H locs hq hZ => ?_)
          obtain ⟨hM, hf2⟩ := hq
          have hS := hS.high hf2
          refine lv_goto (tgt := 485) hF.1 hF.2.1 d_A_law_160 (by decide) ?_
          exact nxt en2 ([]) (sg) (C) (mw) H locs ls hS hM hpm hso hl hZ
        · refine lv_tableIn (tgt := 163) (off := 131) hF.1 hF.2.1 d_A_law_32 (by decide) (by decide) (by decide) (by decide) ?_
          refine lv_aload_n hF.1 hF.2.1 d_A_law_163 rfl (lv_at hl 2 rfl) ?_
          refine z_calli hZ (z_run cw_A_27 hF hZ (0) (c_S_length l (ad := adG G) (by omega) hS) (by decide) (by omega) hS.1 rfl rfl hl.1 rfl (Nat.le_of_ble_eq_true rfl) d_A_law_164) (fun v en1 H locs hq hZ => ?_)
          obtain ⟨he, hv1⟩ := hq
          subst hv1
          have hZ := hZ.to he
          refine lv_aload_n hF.1 hF.2.1 d_A_law_167 rfl (lv_at hl 1 rfl) ?_
          refine z_calli hZ (z_run cw_A_31 hF hZ (104) (c_M_length l (ad := adG G) (by omega) hM) (by decide) (by omega) hM.1 rfl rfl hl.1 rfl (Nat.le_of_ble_eq_true rfl) d_A_law_168) (fun v2 en2 H locs hq hZ => ?_)
          obtain ⟨he, hv2⟩ := hq
          subst hv2
          have hZ := hZ.to he
          refine lv_icmp_eq (tgt := 485) hF.1 hF.2.1 d_A_law_171 (by decide) (fun _ => ?_) (fun h => absurd rfl h)
          exact nxt en (T) (sg) (C) (mw) H locs ls hS hM hpm hso hl hZ
        · refine lv_tableIn (tgt := 176) (off := 144) hF.1 hF.2.1 d_A_law_32 (by decide) (by decide) (by decide) (by decide) ?_
          refine lv_aload_n hF.1 hF.2.1 d_A_law_176 rfl (lv_at hl 2 rfl) ?_
          refine lv_aload_n hF.1 hF.2.1 d_A_law_177 rfl (lv_at hl 3 rfl) ?_
          refine lv_iload_n hF.1 hF.2.1 d_A_law_178 rfl (lv_at hl 0 rfl) ?_
          refine lv_iconst (v := (nI (1))) hF.1 hF.2.1 d_A_law_179 (by decide) ?_
          refine lv_iadd hF.1 hF.2.1 d_A_law_180 ?_
          refine z_top (nI_add (i) (1)) ?_
          refine z_sld hF hX hbl hG hL hZ (i + 1) (by omega) d_A_law_181 ?_
          refine z_calli hZ (z_run cw_A_32 hF hZ (0) (c_S_typed l (ad := adG G) (by omega) hS) (by decide) (by omega) hS.1 rfl rfl hl.1 rfl (Nat.le_of_ble_eq_true rfl) d_A_law_182) (fun v en1 H locs hq hZ => ?_)
          obtain ⟨he, hv1⟩ := hq
          subst hv1
          have hZ := hZ.to he
          refine lv_aload_n hF.1 hF.2.1 d_A_law_185 rfl (lv_at hl 1 rfl) ?_
          refine lv_aload_n hF.1 hF.2.1 d_A_law_186 rfl (lv_at hl 3 rfl) ?_
          refine lv_iload_n hF.1 hF.2.1 d_A_law_187 rfl (lv_at hl 0 rfl) ?_
          refine lv_iconst (v := (nI (1))) hF.1 hF.2.1 d_A_law_188 (by decide) ?_
          refine lv_iadd hF.1 hF.2.1 d_A_law_189 ?_
          refine z_top (nI_add (i) (1)) ?_
          refine z_sld hF hX hbl hG hL hZ (i + 1) (by omega) d_A_law_190 ?_
          refine z_calli hZ (z_run cw_A_36 hF hZ (104) (c_M_typed l (ad := adG G) (by omega) hM) (by decide) (by omega) hM.1 rfl rfl hl.1 rfl (Nat.le_of_ble_eq_true rfl) d_A_law_191) (fun v2 en2 H locs hq hZ => ?_)
          obtain ⟨he, hv2⟩ := hq
          subst hv2
          have hZ := hZ.to he
          refine lv_icmp_eq (tgt := 485) hF.1 hF.2.1 d_A_law_194 (by decide) (fun _ => ?_) (fun h => absurd rfl h)
          exact nxt en (T) (sg) (C) (mw) H locs ls hS hM hpm hso hl hZ
        · refine lv_tableIn (tgt := 199) (off := 167) hF.1 hF.2.1 d_A_law_32 (by decide) (by decide) (by decide) (by decide) ?_
          by_cases hbad : (xs (i + 1)) < nI 1 ∨ nI 1000000 < (xs (i + 1))
          · refine lv_aload_n hF.1 hF.2.1 d_A_law_199 rfl (lv_at hl 2 rfl) ?_
            refine lv_aload_n hF.1 hF.2.1 d_A_law_200 rfl (lv_at hl 3 rfl) ?_
            refine lv_iload_n hF.1 hF.2.1 d_A_law_201 rfl (lv_at hl 0 rfl) ?_
            refine lv_iconst (v := (nI (1))) hF.1 hF.2.1 d_A_law_202 (by decide) ?_
            refine lv_iadd hF.1 hF.2.1 d_A_law_203 ?_
            refine z_top (nI_add (i) (1)) ?_
            refine z_sld hF hX hbl hG hL hZ (i + 1) (by omega) d_A_law_204 ?_
            refine z_calli hZ (z_run cw_A_37 hF hZ (0) (c_S_learnN l (ad := adG G) (by omega) hS hbad) (by decide) (by omega) hS.1 rfl rfl hl.1 rfl (Nat.le_of_ble_eq_true rfl) d_A_law_205) (fun v en1 H locs hq hZ => ?_)
            obtain ⟨hv1, he⟩ := hq
            subst hv1
            have hZ := hZ.to he
            refine lv_aload_n hF.1 hF.2.1 d_A_law_208 rfl (lv_at hl 1 rfl) ?_
            refine lv_aload_n hF.1 hF.2.1 d_A_law_209 rfl (lv_at hl 3 rfl) ?_
            refine lv_iload_n hF.1 hF.2.1 d_A_law_210 rfl (lv_at hl 0 rfl) ?_
            refine lv_iconst (v := (nI (1))) hF.1 hF.2.1 d_A_law_211 (by decide) ?_
            refine lv_iadd hF.1 hF.2.1 d_A_law_212 ?_
            refine z_top (nI_add (i) (1)) ?_
            refine z_sld hF hX hbl hG hL hZ (i + 1) (by omega) d_A_law_213 ?_
            refine z_calli hZ (z_run cw_A_40 hF hZ (104) (c_M_learnN l (ad := adG G) (by omega) hM hbad) (by decide) (by omega) hM.1 rfl rfl hl.1 rfl (Nat.le_of_ble_eq_true rfl) d_A_law_214) (fun v2 en2 H locs hq hZ => ?_)
            obtain ⟨hv2, he⟩ := hq
            subst hv2
            have hZ := hZ.to he
            refine lv_icmp_eq (tgt := 485) hF.1 hF.2.1 d_A_law_217 (by decide) (fun _ => ?_) (fun h => absurd rfl h)
            exact nxt en (T) (sg) (C) (mw) H locs ls hS hM hpm hso hl hZ
          · obtain ⟨t, ht1, ht2, hxt⟩ : ∃ t, 1 ≤ t ∧ t ≤ 1000000 ∧ (xs (i + 1)) = nI t := by
              have q1 : ¬ (xs (i + 1)) < nI 1 := fun z => hbad (Or.inl z)
              have q2 : ¬ nI 1000000 < (xs (i + 1)) := fun z => hbad (Or.inr z)
              rw [Int32.lt_iff_toInt_lt, nI_toInt (by omega)] at q1 q2
              have q0 : ¬ (xs (i + 1)) < 0 := by rw [Int32.lt_iff_toInt_lt, Int32.toInt_zero]; omega
              obtain ⟨t, ht, hxt⟩ := nI_of q0
              rw [hxt, nI_toInt ht] at q1 q2
              exact ⟨t, by omega, by omega, hxt⟩
            by_cases hlb : T.length = 0 ∨ 8 < T.length
            · refine lv_aload_n hF.1 hF.2.1 d_A_law_199 rfl (lv_at hl 2 rfl) ?_
              refine lv_aload_n hF.1 hF.2.1 d_A_law_200 rfl (lv_at hl 3 rfl) ?_
              refine lv_iload_n hF.1 hF.2.1 d_A_law_201 rfl (lv_at hl 0 rfl) ?_
              refine lv_iconst (v := (nI (1))) hF.1 hF.2.1 d_A_law_202 (by decide) ?_
              refine lv_iadd hF.1 hF.2.1 d_A_law_203 ?_
              refine z_top (nI_add (i) (1)) ?_
              refine z_sld hF hX hbl hG hL hZ (i + 1) (by omega) d_A_law_204 ?_
              refine z_top (y := (nI (t))) hxt ?_
              refine z_calli hZ (z_run cw_A_37 hF hZ (0) (c_S_learnL l (ad := adG G) (by omega) hS ht1 ht2 hlb) (by decide) (by omega) hS.1 rfl rfl hl.1 rfl (Nat.le_of_ble_eq_true rfl) d_A_law_205) (fun v en1 H locs hq hZ => ?_)
              obtain ⟨hv1, he⟩ := hq
              subst hv1
              have hZ := hZ.to he
              refine lv_aload_n hF.1 hF.2.1 d_A_law_208 rfl (lv_at hl 1 rfl) ?_
              refine lv_aload_n hF.1 hF.2.1 d_A_law_209 rfl (lv_at hl 3 rfl) ?_
              refine lv_iload_n hF.1 hF.2.1 d_A_law_210 rfl (lv_at hl 0 rfl) ?_
              refine lv_iconst (v := (nI (1))) hF.1 hF.2.1 d_A_law_211 (by decide) ?_
              refine lv_iadd hF.1 hF.2.1 d_A_law_212 ?_
              refine z_top (nI_add (i) (1)) ?_
              refine z_sld hF hX hbl hG hL hZ (i + 1) (by omega) d_A_law_213 ?_
              refine z_top (y := (nI (t))) hxt ?_
              refine z_calli hZ (z_run cw_A_40 hF hZ (104) (c_M_learnL l (ad := adG G) (by omega) hM ht1 ht2 hlb) (by decide) (by omega) hM.1 rfl rfl hl.1 rfl (Nat.le_of_ble_eq_true rfl) d_A_law_214) (fun v2 en2 H locs hq hZ => ?_)
              obtain ⟨hv2, he⟩ := hq
              subst hv2
              have hZ := hZ.to he
              refine lv_icmp_eq (tgt := 485) hF.1 hF.2.1 d_A_law_217 (by decide) (fun _ => ?_) (fun h => absurd rfl h)
              exact nxt en (T) (sg) (C) (mw) H locs ls hS hM hpm hso hl hZ
            · refine lv_aload_n hF.1 hF.2.1 d_A_law_199 rfl (lv_at hl 2 rfl) ?_
              refine lv_aload_n hF.1 hF.2.1 d_A_law_200 rfl (lv_at hl 3 rfl) ?_
              refine lv_iload_n hF.1 hF.2.1 d_A_law_201 rfl (lv_at hl 0 rfl) ?_
              refine lv_iconst (v := (nI (1))) hF.1 hF.2.1 d_A_law_202 (by decide) ?_
              refine lv_iadd hF.1 hF.2.1 d_A_law_203 ?_
              refine z_top (nI_add (i) (1)) ?_
              refine z_sld hF hX hbl hG hL hZ (i + 1) (by omega) d_A_law_204 ?_
              refine z_top (y := (nI (t))) hxt ?_
              refine z_calli hZ (z_run cw_A_37 hF hZ (0) (c_S_learn l (ad := adG G) (by omega) hS ht1 ht2 (by omega) (by omega)) (by decide) (by omega) hS.1 rfl rfl hl.1 rfl (Nat.le_of_ble_eq_true rfl) d_A_law_205) (fun v en1 H locs hq hZ => ?_)
              obtain ⟨hf1, hq⟩ := hq
              have hM := hM.low hf1
              refine lv_aload_n hF.1 hF.2.1 d_A_law_208 rfl (lv_at hl 1 rfl) ?_
              refine lv_aload_n hF.1 hF.2.1 d_A_law_209 rfl (lv_at hl 3 rfl) ?_
              refine lv_iload_n hF.1 hF.2.1 d_A_law_210 rfl (lv_at hl 0 rfl) ?_
              refine lv_iconst (v := (nI (1))) hF.1 hF.2.1 d_A_law_211 (by decide) ?_
              refine lv_iadd hF.1 hF.2.1 d_A_law_212 ?_
              refine z_top (nI_add (i) (1)) ?_
              refine z_sld hF hX hbl hG hL hZ (i + 1) (by omega) d_A_law_213 ?_
              refine z_top (y := (nI (t))) hxt ?_
              refine z_calli hZ (z_run cw_A_40 hF hZ (104) (c_M_learn l (ad := adG G) (by omega) hM ht1 ht2 (by omega) (by omega)) (by decide) (by omega) hM.1 rfl rfl hl.1 rfl (Nat.le_of_ble_eq_true rfl) d_A_law_214) (fun v2 en2 H locs hp hZ => ?_)
              obtain ⟨hf2, hp⟩ := hp
              rcases hq with ⟨k, u, hk, hu, hv1, hS⟩ | ⟨hno, hq⟩
              · rcases hp with ⟨x, u2, hx2, hu2, hv2, hM⟩ | ⟨hno2, -⟩
                · subst hv1
                  subst hv2
                  have hS := hS.high hf2
                  obtain ⟨k2, hk2⟩ := wd_mem hpm hx2
                  have hkk := wd_once hso hk hk2 (hu.trans hu2.symm)
                  subst hkk
                  cases hk.symm.trans hk2
                  refine lv_icmp_eq (tgt := 485) hF.1 hF.2.1 d_A_law_217 (by decide) (fun _ => ?_) (fun h => absurd rfl h)
                  exact nxt en2 T sg _ _ H locs ls hS hM (wd_set2 _ hpm hk hx2) (wd_so_set hso hk rfl) hl hZ
                · exact absurd hu (hno2 u (hpm.mem_iff.mp (List.mem_of_getElem? hk)))
              · rcases hp with ⟨x, u2, hx2, hu2, -, -⟩ | ⟨-, hp⟩
                · exact absurd hu2 (hno u2 (hpm.mem_iff.mpr (List.mem_of_getElem? hx2)))
                · rcases hq with ⟨h24, hv1, sg1, hS⟩ | ⟨h24, hv1, hS⟩
                  · rcases hp with ⟨-, hv2, hM⟩ | ⟨h24b, -, -⟩
                    · subst hv1
                      subst hv2
                      have hS := hS.high hf2
                      refine lv_icmp_eq (tgt := 485) hF.1 hF.2.1 d_A_law_217 (by decide) (fun _ => ?_) (fun h => absurd rfl h)
                      exact nxt en2 T sg1 _ _ H locs ls hS hM (wd_ins_perm hpm _ _) (wd_ins (x := (T, t)) hso hno) hl hZ
                    · exact absurd h24 (by omega)
                  · rcases hp with ⟨h24b, -, -⟩ | ⟨-, hv2, hM⟩
                    · exact absurd h24b (by omega)
                    · subst hv1
                      subst hv2
                      have hS := hS.high hf2
                      refine lv_icmp_eq (tgt := 485) hF.1 hF.2.1 d_A_law_217 (by decide) (fun _ => ?_) (fun h => absurd rfl h)
                      exact nxt en2 (T) (sg) (C) (mw) H locs ls hS hM hpm hso hl hZ
        · refine lv_tableIn (tgt := 222) (off := 190) hF.1 hF.2.1 d_A_law_32 (by decide) (by decide) (by decide) (by decide) ?_
          rcases pk_ix (xs (i + 1)) (n := C.length) (by omega) with h3 | h3 | ⟨v, hv, hxv⟩
          · refine lv_aload_n hF.1 hF.2.1 d_A_law_222 rfl (lv_at hl 2 rfl) ?_
            refine lv_aload_n hF.1 hF.2.1 d_A_law_223 rfl (lv_at hl 3 rfl) ?_
            refine lv_iload_n hF.1 hF.2.1 d_A_law_224 rfl (lv_at hl 0 rfl) ?_
            refine lv_iconst (v := (nI (1))) hF.1 hF.2.1 d_A_law_225 (by decide) ?_
            refine lv_iadd hF.1 hF.2.1 d_A_law_226 ?_
            refine z_top (nI_add (i) (1)) ?_
            refine z_sld hF hX hbl hG hL hZ (i + 1) (by omega) d_A_law_227 ?_
            refine z_calli hZ (z_run cw_A_41 hF hZ (0) (c_S_forgetNo l (ad := adG G) (by omega) hS (Or.inl h3)) (by decide) (by omega) hS.1 rfl rfl hl.1 rfl (Nat.le_of_ble_eq_true rfl) d_A_law_228) (fun v en1 H locs hq hZ => ?_)
            obtain ⟨hv1, he⟩ := hq
            subst hv1
            have hZ := hZ.to he
            refine lv_aload_n hF.1 hF.2.1 d_A_law_231 rfl (lv_at hl 1 rfl) ?_
            refine lv_aload_n hF.1 hF.2.1 d_A_law_232 rfl (lv_at hl 3 rfl) ?_
            refine lv_iload_n hF.1 hF.2.1 d_A_law_233 rfl (lv_at hl 0 rfl) ?_
            refine lv_iconst (v := (nI (1))) hF.1 hF.2.1 d_A_law_234 (by decide) ?_
            refine lv_iadd hF.1 hF.2.1 d_A_law_235 ?_
            refine z_top (nI_add (i) (1)) ?_
            refine z_sld hF hX hbl hG hL hZ (i + 1) (by omega) d_A_law_236 ?_
            refine z_calli hZ (z_run cw_A_44 hF hZ (104) (c_M_forget l (ad := adG G) (by omega) hM hpm hso) (by decide) (by omega) hM.1 rfl rfl hl.1 rfl (Nat.le_of_ble_eq_true rfl) d_A_law_237) (fun v2 en2 H locs hp hZ => ?_)
            obtain ⟨hf2, hp⟩ := hp
            rcases hp with ⟨w, j2, u, hw, hj2, hk2, -, -⟩ | ⟨-, hv2, he⟩
            · exact (ix_no (by omega) (wd_lt_of hj2) hk2 (Or.inl h3)).elim
            · subst hv2
              have hZ := hZ.to he
              refine lv_icmp_eq (tgt := 485) hF.1 hF.2.1 d_A_law_240 (by decide) (fun _ => ?_) (fun h => absurd rfl h)
              exact nxt en (T) (sg) (C) (mw) H locs ls hS hM hpm hso hl hZ
          · refine lv_aload_n hF.1 hF.2.1 d_A_law_222 rfl (lv_at hl 2 rfl) ?_
            refine lv_aload_n hF.1 hF.2.1 d_A_law_223 rfl (lv_at hl 3 rfl) ?_
            refine lv_iload_n hF.1 hF.2.1 d_A_law_224 rfl (lv_at hl 0 rfl) ?_
            refine lv_iconst (v := (nI (1))) hF.1 hF.2.1 d_A_law_225 (by decide) ?_
            refine lv_iadd hF.1 hF.2.1 d_A_law_226 ?_
            refine z_top (nI_add (i) (1)) ?_
            refine z_sld hF hX hbl hG hL hZ (i + 1) (by omega) d_A_law_227 ?_
            refine z_calli hZ (z_run cw_A_41 hF hZ (0) (c_S_forgetNo l (ad := adG G) (by omega) hS (Or.inr h3)) (by decide) (by omega) hS.1 rfl rfl hl.1 rfl (Nat.le_of_ble_eq_true rfl) d_A_law_228) (fun v en1 H locs hq hZ => ?_)
            obtain ⟨hv1, he⟩ := hq
            subst hv1
            have hZ := hZ.to he
            refine lv_aload_n hF.1 hF.2.1 d_A_law_231 rfl (lv_at hl 1 rfl) ?_
            refine lv_aload_n hF.1 hF.2.1 d_A_law_232 rfl (lv_at hl 3 rfl) ?_
            refine lv_iload_n hF.1 hF.2.1 d_A_law_233 rfl (lv_at hl 0 rfl) ?_
            refine lv_iconst (v := (nI (1))) hF.1 hF.2.1 d_A_law_234 (by decide) ?_
            refine lv_iadd hF.1 hF.2.1 d_A_law_235 ?_
            refine z_top (nI_add (i) (1)) ?_
            refine z_sld hF hX hbl hG hL hZ (i + 1) (by omega) d_A_law_236 ?_
            refine z_calli hZ (z_run cw_A_44 hF hZ (104) (c_M_forget l (ad := adG G) (by omega) hM hpm hso) (by decide) (by omega) hM.1 rfl rfl hl.1 rfl (Nat.le_of_ble_eq_true rfl) d_A_law_237) (fun v2 en2 H locs hp hZ => ?_)
            obtain ⟨hf2, hp⟩ := hp
            rcases hp with ⟨w, j2, u, hw, hj2, hk2, -, -⟩ | ⟨-, hv2, he⟩
            · exact (ix_no (by omega) (wd_lt_of hj2) hk2 (Or.inr h3)).elim
            · subst hv2
              have hZ := hZ.to he
              refine lv_icmp_eq (tgt := 485) hF.1 hF.2.1 d_A_law_240 (by decide) (fun _ => ?_) (fun h => absurd rfl h)
              exact nxt en (T) (sg) (C) (mw) H locs ls hS hM hpm hso hl hZ
          · refine lv_aload_n hF.1 hF.2.1 d_A_law_222 rfl (lv_at hl 2 rfl) ?_
            refine lv_aload_n hF.1 hF.2.1 d_A_law_223 rfl (lv_at hl 3 rfl) ?_
            refine lv_iload_n hF.1 hF.2.1 d_A_law_224 rfl (lv_at hl 0 rfl) ?_
            refine lv_iconst (v := (nI (1))) hF.1 hF.2.1 d_A_law_225 (by decide) ?_
            refine lv_iadd hF.1 hF.2.1 d_A_law_226 ?_
            refine z_top (nI_add (i) (1)) ?_
            refine z_sld hF hX hbl hG hL hZ (i + 1) (by omega) d_A_law_227 ?_
            refine z_top (y := (nI (v))) hxv ?_
            refine z_calli hZ (z_run cw_A_41 hF hZ (0) (c_S_forget l (ad := adG G) (by omega) hS hv) (by decide) (by omega) hS.1 rfl rfl hl.1 rfl (Nat.le_of_ble_eq_true rfl) d_A_law_228) (fun v en1 H locs hq hZ => ?_)
            obtain ⟨hv1, ⟨sg1, hS⟩, hf1⟩ := hq
            subst hv1
            have hM := hM.low hf1
            refine lv_aload_n hF.1 hF.2.1 d_A_law_231 rfl (lv_at hl 1 rfl) ?_
            refine lv_aload_n hF.1 hF.2.1 d_A_law_232 rfl (lv_at hl 3 rfl) ?_
            refine lv_iload_n hF.1 hF.2.1 d_A_law_233 rfl (lv_at hl 0 rfl) ?_
            refine lv_iconst (v := (nI (1))) hF.1 hF.2.1 d_A_law_234 (by decide) ?_
            refine lv_iadd hF.1 hF.2.1 d_A_law_235 ?_
            refine z_top (nI_add (i) (1)) ?_
            refine z_sld hF hX hbl hG hL hZ (i + 1) (by omega) d_A_law_236 ?_
            refine z_calli hZ (z_run cw_A_44 hF hZ (104) (c_M_forget l (ad := adG G) (by omega) hM hpm hso) (by decide) (by omega) hM.1 rfl rfl hl.1 rfl (Nat.le_of_ble_eq_true rfl) d_A_law_237) (fun v2 en2 H locs hp hZ => ?_)
            obtain ⟨hf2, hp⟩ := hp
            rcases hp with ⟨w, j2, u, hw, hj2, hk2, hv2, hM⟩ | ⟨hno, -, -⟩
            · subst hv2
              have hS := hS.high hf2
              have hjl := wd_lt_of hj2
              have hjj : v = j2 := (nI_eq (by omega) (by omega)).mp (hxv.symm.trans hk2)
              subst hjj
              refine lv_icmp_eq (tgt := 485) hF.1 hF.2.1 d_A_law_240 (by decide) (fun _ => ?_) (fun h => absurd rfl h)
              exact nxt en2 T sg1 _ _ H locs ls hS hM ((wd_er2 hpm hj2 hw).trans (wd_rm_perm (wd_lt_of hw)).symm) (wd_so_er v hso) hl hZ
            · exact (ix_no (by omega) hv hxv hno).elim
        · refine lv_tableIn (tgt := 245) (off := 213) hF.1 hF.2.1 d_A_law_32 (by decide) (by decide) (by decide) (by decide) ?_
          refine lv_aload_n hF.1 hF.2.1 d_A_law_245 rfl (lv_at hl 2 rfl) ?_
          refine z_calli hZ (z_run cw_A_45 hF hZ (0) (c_S_words l (ad := adG G) (by omega) hS) (by decide) (by omega) hS.1 rfl rfl hl.1 rfl (Nat.le_of_ble_eq_true rfl) d_A_law_246) (fun v en1 H locs hq hZ => ?_)
          obtain ⟨he, hv1⟩ := hq
          subst hv1
          have hZ := hZ.to he
          refine lv_aload_n hF.1 hF.2.1 d_A_law_249 rfl (lv_at hl 1 rfl) ?_
          refine z_calli hZ (z_run cw_A_48 hF hZ (104) (c_M_words l (ad := adG G) (by omega) hM) (by decide) (by omega) hM.1 rfl rfl hl.1 rfl (Nat.le_of_ble_eq_true rfl) d_A_law_250) (fun v2 en2 H locs hq hZ => ?_)
          obtain ⟨he, hv2⟩ := hq
          subst hv2
          have hZ := hZ.to he
          refine lv_icmp_eq (tgt := 485) hF.1 hF.2.1 d_A_law_253 (by decide) (fun _ => ?_) (fun h => absurd (by rw [hlen]) h)
          exact nxt en (T) (sg) (C) (mw) H locs ls hS hM hpm hso hl hZ
        · refine lv_tableIn (tgt := 258) (off := 226) hF.1 hF.2.1 d_A_law_32 (by decide) (by decide) (by decide) (by decide) ?_
          rcases pk_ix (xs (i + 1)) (n := C.length) (by omega) with h3 | h3 | ⟨v, hv, hxv⟩
          · refine lv_aload_n hF.1 hF.2.1 d_A_law_258 rfl (lv_at hl 2 rfl) ?_
            refine lv_aload_n hF.1 hF.2.1 d_A_law_259 rfl (lv_at hl 3 rfl) ?_
            refine lv_iload_n hF.1 hF.2.1 d_A_law_260 rfl (lv_at hl 0 rfl) ?_
            refine lv_iconst (v := (nI (1))) hF.1 hF.2.1 d_A_law_261 (by decide) ?_
            refine lv_iadd hF.1 hF.2.1 d_A_law_262 ?_
            refine z_top (nI_add (i) (1)) ?_
            refine z_sld hF hX hbl hG hL hZ (i + 1) (by omega) d_A_law_263 ?_
            refine lv_aload_n hF.1 hF.2.1 d_A_law_264 rfl (lv_at hl 3 rfl) ?_
            refine lv_iload_n hF.1 hF.2.1 d_A_law_265 rfl (lv_at hl 0 rfl) ?_
            refine lv_iconst (v := (nI (2))) hF.1 hF.2.1 d_A_law_266 (by decide) ?_
            refine lv_iadd hF.1 hF.2.1 d_A_law_267 ?_
            refine z_top (nI_add (i) (2)) ?_
            refine z_sld hF hX hbl hG hL hZ (i + 2) (by omega) d_A_law_268 ?_
            refine z_calli hZ (z_run cw_A_49 hF hZ (0) (c_S_letterNo l (ad := adG G) (by omega) hS (Or.inl h3)) (by decide) (by omega) hS.1 rfl rfl hl.1 rfl (Nat.le_of_ble_eq_true rfl) d_A_law_269) (fun v en1 H locs hq hZ => ?_)
            obtain ⟨he, hv1⟩ := hq
            subst hv1
            have hZ := hZ.to he
            refine lv_aload_n hF.1 hF.2.1 d_A_law_272 rfl (lv_at hl 1 rfl) ?_
            refine lv_aload_n hF.1 hF.2.1 d_A_law_273 rfl (lv_at hl 3 rfl) ?_
            refine lv_iload_n hF.1 hF.2.1 d_A_law_274 rfl (lv_at hl 0 rfl) ?_
            refine lv_iconst (v := (nI (1))) hF.1 hF.2.1 d_A_law_275 (by decide) ?_
            refine lv_iadd hF.1 hF.2.1 d_A_law_276 ?_
            refine z_top (nI_add (i) (1)) ?_
            refine z_sld hF hX hbl hG hL hZ (i + 1) (by omega) d_A_law_277 ?_
            refine lv_aload_n hF.1 hF.2.1 d_A_law_278 rfl (lv_at hl 3 rfl) ?_
            refine lv_iload_n hF.1 hF.2.1 d_A_law_279 rfl (lv_at hl 0 rfl) ?_
            refine lv_iconst (v := (nI (2))) hF.1 hF.2.1 d_A_law_280 (by decide) ?_
            refine lv_iadd hF.1 hF.2.1 d_A_law_281 ?_
            refine z_top (nI_add (i) (2)) ?_
            refine z_sld hF hX hbl hG hL hZ (i + 2) (by omega) d_A_law_282 ?_
            refine z_calli hZ (z_run cw_A_53 hF hZ (104) (c_M_letter l (ad := adG G) (by omega) hM hpm hso) (by decide) (by omega) hM.1 rfl rfl hl.1 rfl (Nat.le_of_ble_eq_true rfl) d_A_law_283) (fun v2 en2 H locs hp hZ => ?_)
            obtain ⟨he, hp⟩ := hp
            have hZ := hZ.to he
            rcases hp with ⟨j2, u, hj2, hk2, -⟩ | ⟨-, hv2⟩
            · exact (ix_no (by omega) (wd_lt_of hj2) hk2 (Or.inl h3)).elim
            · subst hv2
              refine lv_icmp_eq (tgt := 485) hF.1 hF.2.1 d_A_law_286 (by decide) (fun _ => ?_) (fun h => absurd rfl h)
              exact nxt en (T) (sg) (C) (mw) H locs ls hS hM hpm hso hl hZ
          · refine lv_aload_n hF.1 hF.2.1 d_A_law_258 rfl (lv_at hl 2 rfl) ?_
            refine lv_aload_n hF.1 hF.2.1 d_A_law_259 rfl (lv_at hl 3 rfl) ?_
            refine lv_iload_n hF.1 hF.2.1 d_A_law_260 rfl (lv_at hl 0 rfl) ?_
            refine lv_iconst (v := (nI (1))) hF.1 hF.2.1 d_A_law_261 (by decide) ?_
            refine lv_iadd hF.1 hF.2.1 d_A_law_262 ?_
            refine z_top (nI_add (i) (1)) ?_
            refine z_sld hF hX hbl hG hL hZ (i + 1) (by omega) d_A_law_263 ?_
            refine lv_aload_n hF.1 hF.2.1 d_A_law_264 rfl (lv_at hl 3 rfl) ?_
            refine lv_iload_n hF.1 hF.2.1 d_A_law_265 rfl (lv_at hl 0 rfl) ?_
            refine lv_iconst (v := (nI (2))) hF.1 hF.2.1 d_A_law_266 (by decide) ?_
            refine lv_iadd hF.1 hF.2.1 d_A_law_267 ?_
            refine z_top (nI_add (i) (2)) ?_
            refine z_sld hF hX hbl hG hL hZ (i + 2) (by omega) d_A_law_268 ?_
            refine z_calli hZ (z_run cw_A_49 hF hZ (0) (c_S_letterNo l (ad := adG G) (by omega) hS (Or.inr h3)) (by decide) (by omega) hS.1 rfl rfl hl.1 rfl (Nat.le_of_ble_eq_true rfl) d_A_law_269) (fun v en1 H locs hq hZ => ?_)
            obtain ⟨he, hv1⟩ := hq
            subst hv1
            have hZ := hZ.to he
            refine lv_aload_n hF.1 hF.2.1 d_A_law_272 rfl (lv_at hl 1 rfl) ?_
            refine lv_aload_n hF.1 hF.2.1 d_A_law_273 rfl (lv_at hl 3 rfl) ?_
            refine lv_iload_n hF.1 hF.2.1 d_A_law_274 rfl (lv_at hl 0 rfl) ?_
            refine lv_iconst (v := (nI (1))) hF.1 hF.2.1 d_A_law_275 (by decide) ?_
            refine lv_iadd hF.1 hF.2.1 d_A_law_276 ?_
            refine z_top (nI_add (i) (1)) ?_
            refine z_sld hF hX hbl hG hL hZ (i + 1) (by omega) d_A_law_277 ?_
            refine lv_aload_n hF.1 hF.2.1 d_A_law_278 rfl (lv_at hl 3 rfl) ?_
            refine lv_iload_n hF.1 hF.2.1 d_A_law_279 rfl (lv_at hl 0 rfl) ?_
            refine lv_iconst (v := (nI (2))) hF.1 hF.2.1 d_A_law_280 (by decide) ?_
            refine lv_iadd hF.1 hF.2.1 d_A_law_281 ?_
            refine z_top (nI_add (i) (2)) ?_
            refine z_sld hF hX hbl hG hL hZ (i + 2) (by omega) d_A_law_282 ?_
            refine z_calli hZ (z_run cw_A_53 hF hZ (104) (c_M_letter l (ad := adG G) (by omega) hM hpm hso) (by decide) (by omega) hM.1 rfl rfl hl.1 rfl (Nat.le_of_ble_eq_true rfl) d_A_law_283) (fun v2 en2 H locs hp hZ => ?_)
            obtain ⟨he, hp⟩ := hp
            have hZ := hZ.to he
            rcases hp with ⟨j2, u, hj2, hk2, -⟩ | ⟨-, hv2⟩
            · exact (ix_no (by omega) (wd_lt_of hj2) hk2 (Or.inr h3)).elim
            · subst hv2
              refine lv_icmp_eq (tgt := 485) hF.1 hF.2.1 d_A_law_286 (by decide) (fun _ => ?_) (fun h => absurd rfl h)
              exact nxt en (T) (sg) (C) (mw) H locs ls hS hM hpm hso hl hZ
          · obtain ⟨u, hju⟩ := wd_some hv
            refine lv_aload_n hF.1 hF.2.1 d_A_law_258 rfl (lv_at hl 2 rfl) ?_
            refine lv_aload_n hF.1 hF.2.1 d_A_law_259 rfl (lv_at hl 3 rfl) ?_
            refine lv_iload_n hF.1 hF.2.1 d_A_law_260 rfl (lv_at hl 0 rfl) ?_
            refine lv_iconst (v := (nI (1))) hF.1 hF.2.1 d_A_law_261 (by decide) ?_
            refine lv_iadd hF.1 hF.2.1 d_A_law_262 ?_
            refine z_top (nI_add (i) (1)) ?_
            refine z_sld hF hX hbl hG hL hZ (i + 1) (by omega) d_A_law_263 ?_
            refine z_top (y := (nI (v))) hxv ?_
            refine lv_aload_n hF.1 hF.2.1 d_A_law_264 rfl (lv_at hl 3 rfl) ?_
            refine lv_iload_n hF.1 hF.2.1 d_A_law_265 rfl (lv_at hl 0 rfl) ?_
            refine lv_iconst (v := (nI (2))) hF.1 hF.2.1 d_A_law_266 (by decide) ?_
            refine lv_iadd hF.1 hF.2.1 d_A_law_267 ?_
            refine z_top (nI_add (i) (2)) ?_
            refine z_sld hF hX hbl hG hL hZ (i + 2) (by omega) d_A_law_268 ?_
            refine z_calli hZ (z_run cw_A_49 hF hZ (0) (c_S_letter l (ad := adG G) (by omega) hS hju) (by decide) (by omega) hS.1 rfl rfl hl.1 rfl (Nat.le_of_ble_eq_true rfl) d_A_law_269) (fun v en1 H locs hq hZ => ?_)
            obtain ⟨he, hv1⟩ := hq
            subst hv1
            have hZ := hZ.to he
            refine lv_aload_n hF.1 hF.2.1 d_A_law_272 rfl (lv_at hl 1 rfl) ?_
            refine lv_aload_n hF.1 hF.2.1 d_A_law_273 rfl (lv_at hl 3 rfl) ?_
            refine lv_iload_n hF.1 hF.2.1 d_A_law_274 rfl (lv_at hl 0 rfl) ?_
            refine lv_iconst (v := (nI (1))) hF.1 hF.2.1 d_A_law_275 (by decide) ?_
            refine lv_iadd hF.1 hF.2.1 d_A_law_276 ?_
            refine z_top (nI_add (i) (1)) ?_
            refine z_sld hF hX hbl hG hL hZ (i + 1) (by omega) d_A_law_277 ?_
            refine lv_aload_n hF.1 hF.2.1 d_A_law_278 rfl (lv_at hl 3 rfl) ?_
            refine lv_iload_n hF.1 hF.2.1 d_A_law_279 rfl (lv_at hl 0 rfl) ?_
            refine lv_iconst (v := (nI (2))) hF.1 hF.2.1 d_A_law_280 (by decide) ?_
            refine lv_iadd hF.1 hF.2.1 d_A_law_281 ?_
            refine z_top (nI_add (i) (2)) ?_
            refine z_sld hF hX hbl hG hL hZ (i + 2) (by omega) d_A_law_282 ?_
            refine z_calli hZ (z_run cw_A_53 hF hZ (104) (c_M_letter l (ad := adG G) (by omega) hM hpm hso) (by decide) (by omega) hM.1 rfl rfl hl.1 rfl (Nat.le_of_ble_eq_true rfl) d_A_law_283) (fun v2 en2 H locs hp hZ => ?_)
            obtain ⟨he, hp⟩ := hp
            have hZ := hZ.to he
            rcases hp with ⟨j2, u2, hj2, hk2, hv2⟩ | ⟨hno, -⟩
            · have hjl := wd_lt_of hj2
              have hjj : v = j2 := (nI_eq (by omega) (by omega)).mp (hxv.symm.trans hk2)
              subst hjj
              cases hju.symm.trans hj2
              subst hv2
              refine lv_icmp_eq (tgt := 485) hF.1 hF.2.1 d_A_law_286 (by decide) (fun _ => ?_) (fun h => absurd rfl h)
              exact nxt en (T) (sg) (C) (mw) H locs ls hS hM hpm hso hl hZ
            · exact (ix_no (by omega) hv hxv hno).elim
        · refine lv_tableIn (tgt := 291) (off := 259) hF.1 hF.2.1 d_A_law_32 (by decide) (by decide) (by decide) (by decide) ?_
          rcases pk_ix (xs (i + 1)) (n := C.length) (by omega) with h3 | h3 | ⟨v, hv, hxv⟩
          · refine lv_aload_n hF.1 hF.2.1 d_A_law_291 rfl (lv_at hl 2 rfl) ?_
            refine lv_aload_n hF.1 hF.2.1 d_A_law_292 rfl (lv_at hl 3 rfl) ?_
            refine lv_iload_n hF.1 hF.2.1 d_A_law_293 rfl (lv_at hl 0 rfl) ?_
            refine lv_iconst (v := (nI (1))) hF.1 hF.2.1 d_A_law_294 (by decide) ?_
            refine lv_iadd hF.1 hF.2.1 d_A_law_295 ?_
            refine z_top (nI_add (i) (1)) ?_
            refine z_sld hF hX hbl hG hL hZ (i + 1) (by omega) d_A_law_296 ?_
            refine z_calli hZ (z_run cw_A_54 hF hZ (0) (c_S_countNo l (ad := adG G) (by omega) hS (Or.inl h3)) (by decide) (by omega) hS.1 rfl rfl hl.1 rfl (Nat.le_of_ble_eq_true rfl) d_A_law_297) (fun v en1 H locs hq hZ => ?_)
            obtain ⟨he, hv1⟩ := hq
            subst hv1
            have hZ := hZ.to he
            refine lv_aload_n hF.1 hF.2.1 d_A_law_300 rfl (lv_at hl 1 rfl) ?_
            refine lv_aload_n hF.1 hF.2.1 d_A_law_301 rfl (lv_at hl 3 rfl) ?_
            refine lv_iload_n hF.1 hF.2.1 d_A_law_302 rfl (lv_at hl 0 rfl) ?_
            refine lv_iconst (v := (nI (1))) hF.1 hF.2.1 d_A_law_303 (by decide) ?_
            refine lv_iadd hF.1 hF.2.1 d_A_law_304 ?_
            refine z_top (nI_add (i) (1)) ?_
            refine z_sld hF hX hbl hG hL hZ (i + 1) (by omega) d_A_law_305 ?_
            refine z_calli hZ (z_run cw_A_57 hF hZ (104) (c_M_count l (ad := adG G) (by omega) hM hpm hso) (by decide) (by omega) hM.1 rfl rfl hl.1 rfl (Nat.le_of_ble_eq_true rfl) d_A_law_306) (fun v2 en2 H locs hp hZ => ?_)
            obtain ⟨he, hp⟩ := hp
            have hZ := hZ.to he
            rcases hp with ⟨j2, u, hj2, hk2, -⟩ | ⟨-, hv2⟩
            · exact (ix_no (by omega) (wd_lt_of hj2) hk2 (Or.inl h3)).elim
            · subst hv2
              refine lv_icmp_eq (tgt := 485) hF.1 hF.2.1 d_A_law_309 (by decide) (fun _ => ?_) (fun h => absurd rfl h)
              exact nxt en (T) (sg) (C) (mw) H locs ls hS hM hpm hso hl hZ
          · refine lv_aload_n hF.1 hF.2.1 d_A_law_291 rfl (lv_at hl 2 rfl) ?_
            refine lv_aload_n hF.1 hF.2.1 d_A_law_292 rfl (lv_at hl 3 rfl) ?_
            refine lv_iload_n hF.1 hF.2.1 d_A_law_293 rfl (lv_at hl 0 rfl) ?_
            refine lv_iconst (v := (nI (1))) hF.1 hF.2.1 d_A_law_294 (by decide) ?_
            refine lv_iadd hF.1 hF.2.1 d_A_law_295 ?_
            refine z_top (nI_add (i) (1)) ?_
            refine z_sld hF hX hbl hG hL hZ (i + 1) (by omega) d_A_law_296 ?_
            refine z_calli hZ (z_run cw_A_54 hF hZ (0) (c_S_countNo l (ad := adG G) (by omega) hS (Or.inr h3)) (by decide) (by omega) hS.1 rfl rfl hl.1 rfl (Nat.le_of_ble_eq_true rfl) d_A_law_297) (fun v en1 H locs hq hZ => ?_)
            obtain ⟨he, hv1⟩ := hq
            subst hv1
            have hZ := hZ.to he
            refine lv_aload_n hF.1 hF.2.1 d_A_law_300 rfl (lv_at hl 1 rfl) ?_
            refine lv_aload_n hF.1 hF.2.1 d_A_law_301 rfl (lv_at hl 3 rfl) ?_
            refine lv_iload_n hF.1 hF.2.1 d_A_law_302 rfl (lv_at hl 0 rfl) ?_
            refine lv_iconst (v := (nI (1))) hF.1 hF.2.1 d_A_law_303 (by decide) ?_
            refine lv_iadd hF.1 hF.2.1 d_A_law_304 ?_
            refine z_top (nI_add (i) (1)) ?_
            refine z_sld hF hX hbl hG hL hZ (i + 1) (by omega) d_A_law_305 ?_
            refine z_calli hZ (z_run cw_A_57 hF hZ (104) (c_M_count l (ad := adG G) (by omega) hM hpm hso) (by decide) (by omega) hM.1 rfl rfl hl.1 rfl (Nat.le_of_ble_eq_true rfl) d_A_law_306) (fun v2 en2 H locs hp hZ => ?_)
            obtain ⟨he, hp⟩ := hp
            have hZ := hZ.to he
            rcases hp with ⟨j2, u, hj2, hk2, -⟩ | ⟨-, hv2⟩
            · exact (ix_no (by omega) (wd_lt_of hj2) hk2 (Or.inr h3)).elim
            · subst hv2
              refine lv_icmp_eq (tgt := 485) hF.1 hF.2.1 d_A_law_309 (by decide) (fun _ => ?_) (fun h => absurd rfl h)
              exact nxt en (T) (sg) (C) (mw) H locs ls hS hM hpm hso hl hZ
          · obtain ⟨u, hju⟩ := wd_some hv
            refine lv_aload_n hF.1 hF.2.1 d_A_law_291 rfl (lv_at hl 2 rfl) ?_
            refine lv_aload_n hF.1 hF.2.1 d_A_law_292 rfl (lv_at hl 3 rfl) ?_
            refine lv_iload_n hF.1 hF.2.1 d_A_law_293 rfl (lv_at hl 0 rfl) ?_
            refine lv_iconst (v := (nI (1))) hF.1 hF.2.1 d_A_law_294 (by decide) ?_
            refine lv_iadd hF.1 hF.2.1 d_A_law_295 ?_
            refine z_top (nI_add (i) (1)) ?_
            refine z_sld hF hX hbl hG hL hZ (i + 1) (by omega) d_A_law_296 ?_
            refine z_top (y := (nI (v))) hxv ?_
            refine z_calli hZ (z_run cw_A_54 hF hZ (0) (c_S_count l (ad := adG G) (by omega) hS hju) (by decide) (by omega) hS.1 rfl rfl hl.1 rfl (Nat.le_of_ble_eq_true rfl) d_A_law_297) (fun v en1 H locs hq hZ => ?_)
            obtain ⟨he, hv1⟩ := hq
            subst hv1
            have hZ := hZ.to he
            refine lv_aload_n hF.1 hF.2.1 d_A_law_300 rfl (lv_at hl 1 rfl) ?_
            refine lv_aload_n hF.1 hF.2.1 d_A_law_301 rfl (lv_at hl 3 rfl) ?_
            refine lv_iload_n hF.1 hF.2.1 d_A_law_302 rfl (lv_at hl 0 rfl) ?_
            refine lv_iconst (v := (nI (1))) hF.1 hF.2.1 d_A_law_303 (by decide) ?_
            refine lv_iadd hF.1 hF.2.1 d_A_law_304 ?_
            refine z_top (nI_add (i) (1)) ?_
            refine z_sld hF hX hbl hG hL hZ (i + 1) (by omega) d_A_law_305 ?_
            refine z_calli hZ (z_run cw_A_57 hF hZ (104) (c_M_count l (ad := adG G) (by omega) hM hpm hso) (by decide) (by omega) hM.1 rfl rfl hl.1 rfl (Nat.le_of_ble_eq_true rfl) d_A_law_306) (fun v2 en2 H locs hp hZ => ?_)
            obtain ⟨he, hp⟩ := hp
            have hZ := hZ.to he
            rcases hp with ⟨j2, u2, hj2, hk2, hv2⟩ | ⟨hno, -⟩
            · have hjl := wd_lt_of hj2
              have hjj : v = j2 := (nI_eq (by omega) (by omega)).mp (hxv.symm.trans hk2)
              subst hjj
              cases hju.symm.trans hj2
              subst hv2
              refine lv_icmp_eq (tgt := 485) hF.1 hF.2.1 d_A_law_309 (by decide) (fun _ => ?_) (fun h => absurd rfl h)
              exact nxt en (T) (sg) (C) (mw) H locs ls hS hM hpm hso hl hZ
            · exact (ix_no (by omega) hv hxv hno).elim
        · refine lv_tableIn (tgt := 314) (off := 282) hF.1 hF.2.1 d_A_law_32 (by decide) (by decide) (by decide) (by decide) ?_
          refine lv_aload_n hF.1 hF.2.1 d_A_law_314 rfl (lv_at hl 2 rfl) ?_
          refine z_calli hZ (z_run cw_A_58 hF hZ (0) (c_S_rank l (ad := adG G) (by omega) hS) (by decide) (by omega) hS.1 rfl rfl hl.1 rfl (Nat.le_of_ble_eq_true rfl) d_A_law_315) (fun v en1 H locs hq hZ => ?_)
          obtain ⟨he, hq⟩ := hq
          have hZ := hZ.to he
          refine lv_aload_n hF.1 hF.2.1 d_A_law_318 rfl (lv_at hl 1 rfl) ?_
          refine z_calli hZ (z_run cw_A_61 hF hZ (104) (c_M_rank l (ad := adG G) (by omega) hM hpm hso) (by decide) (by omega) hM.1 rfl rfl hl.1 rfl (Nat.le_of_ble_eq_true rfl) d_A_law_319) (fun v2 en2 H locs hp hZ => ?_)
          obtain ⟨he, hp⟩ := hp
          have hZ := hZ.to he
          have hvv : v = v2 := by
            rcases hq with ⟨k1, u1, hk1, hu1, hv1⟩ | ⟨hv1, hno1⟩
            · rcases hp with ⟨k2, u2, hk2, hu2, hv2⟩ | ⟨hv2, hno2⟩
              · rw [hv1, hv2, wd_once hso hk1 hk2 (hu1.trans hu2.symm)]
              · exact absurd hu1 (hno2 u1 (List.mem_of_getElem? hk1))
            · rcases hp with ⟨k2, u2, hk2, hu2, hv2⟩ | ⟨hv2, hno2⟩
              · exact absurd hu2 (hno1 u2 (List.mem_of_getElem? hk2))
              · rw [hv1, hv2]
          refine lv_icmp_eq (tgt := 485) hF.1 hF.2.1 d_A_law_322 (by decide) (fun _ => ?_) (fun h => absurd hvv h)
          exact nxt en (T) (sg) (C) (mw) H locs ls hS hM hpm hso hl hZ
        · refine lv_tableIn (tgt := 327) (off := 295) hF.1 hF.2.1 d_A_law_32 (by decide) (by decide) (by decide) (by decide) ?_
          rcases pk_ix (xs (i + 1)) (n := C.length) (by omega) with h3 | h3 | ⟨v, hv, hxv⟩
          · refine lv_aload_n hF.1 hF.2.1 d_A_law_327 rfl (lv_at hl 2 rfl) ?_
            refine lv_aload_n hF.1 hF.2.1 d_A_law_328 rfl (lv_at hl 3 rfl) ?_
            refine lv_iload_n hF.1 hF.2.1 d_A_law_329 rfl (lv_at hl 0 rfl) ?_
            refine lv_iconst (v := (nI (1))) hF.1 hF.2.1 d_A_law_330 (by decide) ?_
            refine lv_iadd hF.1 hF.2.1 d_A_law_331 ?_
            refine z_top (nI_add (i) (1)) ?_
            refine z_sld hF hX hbl hG hL hZ (i + 1) (by omega) d_A_law_332 ?_
            refine z_calli hZ (z_run cw_A_62 hF hZ (0) (c_S_distanceNo l (ad := adG G) (by omega) hS (Or.inl h3)) (by decide) (by omega) hS.1 rfl rfl hl.1 rfl (Nat.le_of_ble_eq_true rfl) d_A_law_333) (fun v en1 H locs hq hZ => ?_)
            obtain ⟨he, hv1⟩ := hq
            subst hv1
            have hZ := hZ.to he
            refine lv_aload_n hF.1 hF.2.1 d_A_law_336 rfl (lv_at hl 1 rfl) ?_
            refine lv_aload_n hF.1 hF.2.1 d_A_law_337 rfl (lv_at hl 3 rfl) ?_
            refine lv_iload_n hF.1 hF.2.1 d_A_law_338 rfl (lv_at hl 0 rfl) ?_
            refine lv_iconst (v := (nI (1))) hF.1 hF.2.1 d_A_law_339 (by decide) ?_
            refine lv_iadd hF.1 hF.2.1 d_A_law_340 ?_
            refine z_top (nI_add (i) (1)) ?_
            refine z_sld hF hX hbl hG hL hZ (i + 1) (by omega) d_A_law_341 ?_
            refine z_calli hZ (z_run cw_A_65 hF hZ (104) (c_M_distance l (ad := adG G) (by omega) hM hpm hso) (by decide) (by omega) hM.1 rfl rfl hl.1 rfl (Nat.le_of_ble_eq_true rfl) d_A_law_342) (fun v2 en2 H locs hp hZ => ?_)
            obtain ⟨hM, hf9, hp⟩ := hp
            have hS := hS.high (fun r hr => hf9 r (by omega))
            rcases hp with ⟨j2, u, hj2, hk2, -⟩ | ⟨-, hv2⟩
            · exact (ix_no (by omega) (wd_lt_of hj2) hk2 (Or.inl h3)).elim
            · subst hv2
              refine lv_icmp_eq (tgt := 485) hF.1 hF.2.1 d_A_law_345 (by decide) (fun _ => ?_) (fun h => absurd rfl h)
              exact nxt en2 (T) (sg) (C) (mw) H locs ls hS hM hpm hso hl hZ
          · refine lv_aload_n hF.1 hF.2.1 d_A_law_327 rfl (lv_at hl 2 rfl) ?_
            refine lv_aload_n hF.1 hF.2.1 d_A_law_328 rfl (lv_at hl 3 rfl) ?_
            refine lv_iload_n hF.1 hF.2.1 d_A_law_329 rfl (lv_at hl 0 rfl) ?_
            refine lv_iconst (v := (nI (1))) hF.1 hF.2.1 d_A_law_330 (by decide) ?_
            refine lv_iadd hF.1 hF.2.1 d_A_law_331 ?_
            refine z_top (nI_add (i) (1)) ?_
            refine z_sld hF hX hbl hG hL hZ (i + 1) (by omega) d_A_law_332 ?_
            refine z_calli hZ (z_run cw_A_62 hF hZ (0) (c_S_distanceNo l (ad := adG G) (by omega) hS (Or.inr h3)) (by decide) (by omega) hS.1 rfl rfl hl.1 rfl (Nat.le_of_ble_eq_true rfl) d_A_law_333) (fun v en1 H locs hq hZ => ?_)
            obtain ⟨he, hv1⟩ := hq
            subst hv1
            have hZ := hZ.to he
            refine lv_aload_n hF.1 hF.2.1 d_A_law_336 rfl (lv_at hl 1 rfl) ?_
            refine lv_aload_n hF.1 hF.2.1 d_A_law_337 rfl (lv_at hl 3 rfl) ?_
            refine lv_iload_n hF.1 hF.2.1 d_A_law_338 rfl (lv_at hl 0 rfl) ?_
            refine lv_iconst (v := (nI (1))) hF.1 hF.2.1 d_A_law_339 (by decide) ?_
            refine lv_iadd hF.1 hF.2.1 d_A_law_340 ?_
            refine z_top (nI_add (i) (1)) ?_
            refine z_sld hF hX hbl hG hL hZ (i + 1) (by omega) d_A_law_341 ?_
            refine z_calli hZ (z_run cw_A_65 hF hZ (104) (c_M_distance l (ad := adG G) (by omega) hM hpm hso) (by decide) (by omega) hM.1 rfl rfl hl.1 rfl (Nat.le_of_ble_eq_true rfl) d_A_law_342) (fun v2 en2 H locs hp hZ => ?_)
            obtain ⟨hM, hf9, hp⟩ := hp
            have hS := hS.high (fun r hr => hf9 r (by omega))
            rcases hp with ⟨j2, u, hj2, hk2, -⟩ | ⟨-, hv2⟩
            · exact (ix_no (by omega) (wd_lt_of hj2) hk2 (Or.inr h3)).elim
            · subst hv2
              refine lv_icmp_eq (tgt := 485) hF.1 hF.2.1 d_A_law_345 (by decide) (fun _ => ?_) (fun h => absurd rfl h)
              exact nxt en2 (T) (sg) (C) (mw) H locs ls hS hM hpm hso hl hZ
          · obtain ⟨u, hju⟩ := wd_some hv
            refine lv_aload_n hF.1 hF.2.1 d_A_law_327 rfl (lv_at hl 2 rfl) ?_
            refine lv_aload_n hF.1 hF.2.1 d_A_law_328 rfl (lv_at hl 3 rfl) ?_
            refine lv_iload_n hF.1 hF.2.1 d_A_law_329 rfl (lv_at hl 0 rfl) ?_
            refine lv_iconst (v := (nI (1))) hF.1 hF.2.1 d_A_law_330 (by decide) ?_
            refine lv_iadd hF.1 hF.2.1 d_A_law_331 ?_
            refine z_top (nI_add (i) (1)) ?_
            refine z_sld hF hX hbl hG hL hZ (i + 1) (by omega) d_A_law_332 ?_
            refine z_top (y := (nI (v))) hxv ?_
            refine z_calli hZ (z_run cw_A_62 hF hZ (0) (c_S_distance l (ad := adG G) (by omega) hS hju) (by decide) (by omega) hS.1 rfl rfl hl.1 rfl (Nat.le_of_ble_eq_true rfl) d_A_law_333) (fun v en1 H locs hq hZ => ?_)
            obtain ⟨hv1, hS, hf1⟩ := hq
            subst hv1
            have hM := hM.low hf1
            refine lv_aload_n hF.1 hF.2.1 d_A_law_336 rfl (lv_at hl 1 rfl) ?_
            refine lv_aload_n hF.1 hF.2.1 d_A_law_337 rfl (lv_at hl 3 rfl) ?_
            refine lv_iload_n hF.1 hF.2.1 d_A_law_338 rfl (lv_at hl 0 rfl) ?_
            refine lv_iconst (v := (nI (1))) hF.1 hF.2.1 d_A_law_339 (by decide) ?_
            refine lv_iadd hF.1 hF.2.1 d_A_law_340 ?_
            refine z_top (nI_add (i) (1)) ?_
            refine z_sld hF hX hbl hG hL hZ (i + 1) (by omega) d_A_law_341 ?_
            refine z_calli hZ (z_run cw_A_65 hF hZ (104) (c_M_distance l (ad := adG G) (by omega) hM hpm hso) (by decide) (by omega) hM.1 rfl rfl hl.1 rfl (Nat.le_of_ble_eq_true rfl) d_A_law_342) (fun v2 en2 H locs hp hZ => ?_)
            obtain ⟨hM, hf9, hp⟩ := hp
            have hS := hS.high (fun r hr => hf9 r (by omega))
            rcases hp with ⟨j2, u2, hj2, hk2, hv2⟩ | ⟨hno, -⟩
            · have hjl := wd_lt_of hj2
              have hjj : v = j2 := (nI_eq (by omega) (by omega)).mp (hxv.symm.trans hk2)
              subst hjj
              cases hju.symm.trans hj2
              subst hv2
              refine lv_icmp_eq (tgt := 485) hF.1 hF.2.1 d_A_law_345 (by decide) (fun _ => ?_) (fun h => absurd rfl h)
              exact nxt en2 (T) (sg) (C) (mw) H locs ls hS hM hpm hso hl hZ
            · exact (ix_no (by omega) hv hxv hno).elim
        · refine lv_tableIn (tgt := 350) (off := 318) hF.1 hF.2.1 d_A_law_32 (by decide) (by decide) (by decide) (by decide) ?_
          refine lv_aload_n hF.1 hF.2.1 d_A_law_350 rfl (lv_at hl 2 rfl) ?_
          refine lv_aload_n hF.1 hF.2.1 d_A_law_351 rfl (lv_at hl 3 rfl) ?_
          refine lv_iload_n hF.1 hF.2.1 d_A_law_352 rfl (lv_at hl 0 rfl) ?_
          refine lv_iconst (v := (nI (1))) hF.1 hF.2.1 d_A_law_353 (by decide) ?_
          refine lv_iadd hF.1 hF.2.1 d_A_law_354 ?_
          refine z_top (nI_add (i) (1)) ?_
          refine z_sld hF hX hbl hG hL hZ (i + 1) (by omega) d_A_law_355 ?_
          refine z_calli hZ (z_run cw_A_66 hF hZ (0) (c_S_near l (ad := adG G) (by omega) hS) (by decide) (by omega) hS.1 rfl rfl hl.1 rfl (Nat.le_of_ble_eq_true rfl) d_A_law_356) (fun v en1 H locs hq hZ => ?_)
          obtain ⟨hv1, hS, hf1⟩ := hq
          subst hv1
          have hM := hM.low hf1
          refine lv_aload_n hF.1 hF.2.1 d_A_law_359 rfl (lv_at hl 1 rfl) ?_
          refine lv_aload_n hF.1 hF.2.1 d_A_law_360 rfl (lv_at hl 3 rfl) ?_
          refine lv_iload_n hF.1 hF.2.1 d_A_law_361 rfl (lv_at hl 0 rfl) ?_
          refine lv_iconst (v := (nI (1))) hF.1 hF.2.1 d_A_law_362 (by decide) ?_
          refine lv_iadd hF.1 hF.2.1 d_A_law_363 ?_
          refine z_top (nI_add (i) (1)) ?_
          refine z_sld hF hX hbl hG hL hZ (i + 1) (by omega) d_A_law_364 ?_
          refine z_calli hZ (z_run cw_A_69 hF hZ (104) (c_M_near l (ad := adG G) (by omega) hM) (by decide) (by omega) hM.1 rfl rfl hl.1 rfl (Nat.le_of_ble_eq_true rfl) d_A_law_365) (fun v2 en2 H locs hp hZ => ?_)
          obtain ⟨hM, hf9, hv2⟩ := hp
          have hS := hS.high (fun r hr => hf9 r (by omega))
          subst hv2
          refine lv_icmp_eq (tgt := 485) hF.1 hF.2.1 d_A_law_368 (by decide) (fun _ => ?_) (fun h => absurd (by rw [hpm.countP_eq]) h)
          exact nxt en2 (T) (sg) (C) (mw) H locs ls hS hM hpm hso hl hZ
        · refine lv_tableIn (tgt := 373) (off := 341) hF.1 hF.2.1 d_A_law_32 (by decide) (by decide) (by decide) (by decide) ?_
          refine lv_aload_n hF.1 hF.2.1 d_A_law_373 rfl (lv_at hl 2 rfl) ?_
          refine lv_aload_n hF.1 hF.2.1 d_A_law_374 rfl (lv_at hl 3 rfl) ?_
          refine lv_iload_n hF.1 hF.2.1 d_A_law_375 rfl (lv_at hl 0 rfl) ?_
          refine lv_iconst (v := (nI (1))) hF.1 hF.2.1 d_A_law_376 (by decide) ?_
          refine lv_iadd hF.1 hF.2.1 d_A_law_377 ?_
          refine z_top (nI_add (i) (1)) ?_
          refine z_sld hF hX hbl hG hL hZ (i + 1) (by omega) d_A_law_378 ?_
          refine lv_aload_n hF.1 hF.2.1 d_A_law_379 rfl (lv_at hl 3 rfl) ?_
          refine lv_iload_n hF.1 hF.2.1 d_A_law_380 rfl (lv_at hl 0 rfl) ?_
          refine lv_iconst (v := (nI (2))) hF.1 hF.2.1 d_A_law_381 (by decide) ?_
          refine lv_iadd hF.1 hF.2.1 d_A_law_382 ?_
          refine z_top (nI_add (i) (2)) ?_
          refine z_sld hF hX hbl hG hL hZ (i + 2) (by omega) d_A_law_383 ?_
          refine z_calli hZ (z_run cw_A_70 hF hZ (0) (c_S_suggest l (ad := adG G) (by omega) hS hso) (by decide) (by omega) hS.1 rfl rfl hl.1 rfl (Nat.le_of_ble_eq_true rfl) d_A_law_384) (fun v en1 H locs hq hZ => ?_)
          obtain ⟨hq, hS, hf1⟩ := hq
          have hM := hM.low hf1
          refine lv_aload_n hF.1 hF.2.1 d_A_law_387 rfl (lv_at hl 1 rfl) ?_
          refine lv_aload_n hF.1 hF.2.1 d_A_law_388 rfl (lv_at hl 3 rfl) ?_
          refine lv_iload_n hF.1 hF.2.1 d_A_law_389 rfl (lv_at hl 0 rfl) ?_
          refine lv_iconst (v := (nI (1))) hF.1 hF.2.1 d_A_law_390 (by decide) ?_
          refine lv_iadd hF.1 hF.2.1 d_A_law_391 ?_
          refine z_top (nI_add (i) (1)) ?_
          refine z_sld hF hX hbl hG hL hZ (i + 1) (by omega) d_A_law_392 ?_
          refine lv_aload_n hF.1 hF.2.1 d_A_law_393 rfl (lv_at hl 3 rfl) ?_
          refine lv_iload_n hF.1 hF.2.1 d_A_law_394 rfl (lv_at hl 0 rfl) ?_
          refine lv_iconst (v := (nI (2))) hF.1 hF.2.1 d_A_law_395 (by decide) ?_
          refine lv_iadd hF.1 hF.2.1 d_A_law_396 ?_
          refine z_top (nI_add (i) (2)) ?_
          refine z_sld hF hX hbl hG hL hZ (i + 2) (by omega) d_A_law_397 ?_
          refine z_calli hZ (z_run cw_A_73 hF hZ (104) (c_M_suggest l (ad := adG G) (by omega) hM hpm hso) (by decide) (by omega) hM.1 rfl rfl hl.1 rfl (Nat.le_of_ble_eq_true rfl) d_A_law_398) (fun v2 en2 H locs hp hZ => ?_)
          obtain ⟨hM, hf9, hp⟩ := hp
          have hS := hS.high (fun r hr => hf9 r (by omega))
          refine lv_icmp_eq (tgt := 485) hF.1 hF.2.1 d_A_law_401 (by decide) (fun _ => ?_) (fun h => absurd (wd_sug_one hso (by omega) hq hp) h)
          exact nxt en2 (T) (sg) (C) (mw) H locs ls hS hM hpm hso hl hZ
        · refine lv_tableIn (tgt := 406) (off := 374) hF.1 hF.2.1 d_A_law_32 (by decide) (by decide) (by decide) (by decide) ?_
          refine lv_aload_n hF.1 hF.2.1 d_A_law_406 rfl (lv_at hl 2 rfl) ?_
          refine lv_aload_n hF.1 hF.2.1 d_A_law_407 rfl (lv_at hl 3 rfl) ?_
          refine lv_iload_n hF.1 hF.2.1 d_A_law_408 rfl (lv_at hl 0 rfl) ?_
          refine lv_iconst (v := (nI (1))) hF.1 hF.2.1 d_A_law_409 (by decide) ?_
          refine lv_iadd hF.1 hF.2.1 d_A_law_410 ?_
          refine z_top (nI_add (i) (1)) ?_
          refine z_sld hF hX hbl hG hL hZ (i + 1) (by omega) d_A_law_411 ?_
          refine z_calli hZ (z_run cw_A_74 hF hZ (0) (c_S_complete l (ad := adG G) (by omega) hS hso) (by decide) (by omega) hS.1 rfl rfl hl.1 rfl (Nat.le_of_ble_eq_true rfl) d_A_law_412) (fun v en1 H locs hq hZ => ?_)
          obtain ⟨he, hq⟩ := hq
          have hZ := hZ.to he
          refine lv_aload_n hF.1 hF.2.1 d_A_law_415 rfl (lv_at hl 1 rfl) ?_
          refine lv_aload_n hF.1 hF.2.1 d_A_law_416 rfl (lv_at hl 3 rfl) ?_
          refine lv_iload_n hF.1 hF.2.1 d_A_law_417 rfl (lv_at hl 0 rfl) ?_
          refine lv_iconst (v := (nI (1))) hF.1 hF.2.1 d_A_law_418 (by decide) ?_
          refine lv_iadd hF.1 hF.2.1 d_A_law_419 ?_
          refine z_top (nI_add (i) (1)) ?_
          refine z_sld hF hX hbl hG hL hZ (i + 1) (by omega) d_A_law_420 ?_
          refine z_calli hZ (z_run cw_A_77 hF hZ (104) (c_M_complete l (ad := adG G) (by omega) hM hpm hso) (by decide) (by omega) hM.1 rfl rfl hl.1 rfl (Nat.le_of_ble_eq_true rfl) d_A_law_421) (fun v2 en2 H locs hp hZ => ?_)
          obtain ⟨he, hp⟩ := hp
          have hZ := hZ.to he
          refine lv_icmp_eq (tgt := 485) hF.1 hF.2.1 d_A_law_424 (by decide) (fun _ => ?_) (fun h => absurd (wd_sug_one hso (by omega) hq hp) h)
          exact nxt en (T) (sg) (C) (mw) H locs ls hS hM hpm hso hl hZ
        · refine lv_tableIn (tgt := 429) (off := 397) hF.1 hF.2.1 d_A_law_32 (by decide) (by decide) (by decide) (by decide) ?_
          rcases pk_ix (xs (i + 1)) (n := C.length) (by omega) with h3 | h3 | ⟨v, hv, hxv⟩
          · refine lv_aload_n hF.1 hF.2.1 d_A_law_429 rfl (lv_at hl 2 rfl) ?_
            refine lv_aload_n hF.1 hF.2.1 d_A_law_430 rfl (lv_at hl 3 rfl) ?_
            refine lv_iload_n hF.1 hF.2.1 d_A_law_431 rfl (lv_at hl 0 rfl) ?_
            refine lv_iconst (v := (nI (1))) hF.1 hF.2.1 d_A_law_432 (by decide) ?_
            refine lv_iadd hF.1 hF.2.1 d_A_law_433 ?_
            refine z_top (nI_add (i) (1)) ?_
            refine z_sld hF hX hbl hG hL hZ (i + 1) (by omega) d_A_law_434 ?_
            refine lv_aload_n hF.1 hF.2.1 d_A_law_435 rfl (lv_at hl 3 rfl) ?_
            refine lv_iload_n hF.1 hF.2.1 d_A_law_436 rfl (lv_at hl 0 rfl) ?_
            refine lv_iconst (v := (nI (2))) hF.1 hF.2.1 d_A_law_437 (by decide) ?_
            refine lv_iadd hF.1 hF.2.1 d_A_law_438 ?_
            refine z_top (nI_add (i) (2)) ?_
            refine z_sld hF hX hbl hG hL hZ (i + 2) (by omega) d_A_law_439 ?_
            refine z_calli hZ (z_run cw_A_78 hF hZ (0) (c_S_editNo l (ad := adG G) (by omega) hS (Or.inl h3)) (by decide) (by omega) hS.1 rfl rfl hl.1 rfl (Nat.le_of_ble_eq_true rfl) d_A_law_440) (fun v en1 H locs hq hZ => ?_)
            obtain ⟨he, hv1⟩ := hq
            subst hv1
            have hZ := hZ.to he
            refine lv_aload_n hF.1 hF.2.1 d_A_law_443 rfl (lv_at hl 1 rfl) ?_
            refine lv_aload_n hF.1 hF.2.1 d_A_law_444 rfl (lv_at hl 3 rfl) ?_
            refine lv_iload_n hF.1 hF.2.1 d_A_law_445 rfl (lv_at hl 0 rfl) ?_
            refine lv_iconst (v := (nI (1))) hF.1 hF.2.1 d_A_law_446 (by decide) ?_
            refine lv_iadd hF.1 hF.2.1 d_A_law_447 ?_
            refine z_top (nI_add (i) (1)) ?_
            refine z_sld hF hX hbl hG hL hZ (i + 1) (by omega) d_A_law_448 ?_
            refine lv_aload_n hF.1 hF.2.1 d_A_law_449 rfl (lv_at hl 3 rfl) ?_
            refine lv_iload_n hF.1 hF.2.1 d_A_law_450 rfl (lv_at hl 0 rfl) ?_
            refine lv_iconst (v := (nI (2))) hF.1 hF.2.1 d_A_law_451 (by decide) ?_
            refine lv_iadd hF.1 hF.2.1 d_A_law_452 ?_
            refine z_top (nI_add (i) (2)) ?_
            refine z_sld hF hX hbl hG hL hZ (i + 2) (by omega) d_A_law_453 ?_
            refine z_calli hZ (z_run cw_A_81 hF hZ (104) (c_M_edit l (ad := adG G) (by omega) hM hpm hso) (by decide) (by omega) hM.1 rfl rfl hl.1 rfl (Nat.le_of_ble_eq_true rfl) d_A_law_454) (fun v2 en2 H locs hp hZ => ?_)
            obtain ⟨hM, hf9, hp⟩ := hp
            have hS := hS.high (fun r hr => hf9 r (by omega))
            rcases hp with ⟨j2, u, hj2, hk2, -⟩ | ⟨-, hv2⟩
            · exact (ix_no (by omega) (wd_lt_of hj2) hk2 (Or.inl h3)).elim
            · subst hv2
              refine lv_icmp_eq (tgt := 485) hF.1 hF.2.1 d_A_law_457 (by decide) (fun _ => ?_) (fun h => absurd rfl h)
              exact nxt en2 (T) (sg) (C) (mw) H locs ls hS hM hpm hso hl hZ
          · refine lv_aload_n hF.1 hF.2.1 d_A_law_429 rfl (lv_at hl 2 rfl) ?_
            refine lv_aload_n hF.1 hF.2.1 d_A_law_430 rfl (lv_at hl 3 rfl) ?_
            refine lv_iload_n hF.1 hF.2.1 d_A_law_431 rfl (lv_at hl 0 rfl) ?_
            refine lv_iconst (v := (nI (1))) hF.1 hF.2.1 d_A_law_432 (by decide) ?_
            refine lv_iadd hF.1 hF.2.1 d_A_law_433 ?_
            refine z_top (nI_add (i) (1)) ?_
            refine z_sld hF hX hbl hG hL hZ (i + 1) (by omega) d_A_law_434 ?_
            refine lv_aload_n hF.1 hF.2.1 d_A_law_435 rfl (lv_at hl 3 rfl) ?_
            refine lv_iload_n hF.1 hF.2.1 d_A_law_436 rfl (lv_at hl 0 rfl) ?_
            refine lv_iconst (v := (nI (2))) hF.1 hF.2.1 d_A_law_437 (by decide) ?_
            refine lv_iadd hF.1 hF.2.1 d_A_law_438 ?_
            refine z_top (nI_add (i) (2)) ?_
            refine z_sld hF hX hbl hG hL hZ (i + 2) (by omega) d_A_law_439 ?_
            refine z_calli hZ (z_run cw_A_78 hF hZ (0) (c_S_editNo l (ad := adG G) (by omega) hS (Or.inr h3)) (by decide) (by omega) hS.1 rfl rfl hl.1 rfl (Nat.le_of_ble_eq_true rfl) d_A_law_440) (fun v en1 H locs hq hZ => ?_)
            obtain ⟨he, hv1⟩ := hq
            subst hv1
            have hZ := hZ.to he
            refine lv_aload_n hF.1 hF.2.1 d_A_law_443 rfl (lv_at hl 1 rfl) ?_
            refine lv_aload_n hF.1 hF.2.1 d_A_law_444 rfl (lv_at hl 3 rfl) ?_
            refine lv_iload_n hF.1 hF.2.1 d_A_law_445 rfl (lv_at hl 0 rfl) ?_
            refine lv_iconst (v := (nI (1))) hF.1 hF.2.1 d_A_law_446 (by decide) ?_
            refine lv_iadd hF.1 hF.2.1 d_A_law_447 ?_
            refine z_top (nI_add (i) (1)) ?_
            refine z_sld hF hX hbl hG hL hZ (i + 1) (by omega) d_A_law_448 ?_
            refine lv_aload_n hF.1 hF.2.1 d_A_law_449 rfl (lv_at hl 3 rfl) ?_
            refine lv_iload_n hF.1 hF.2.1 d_A_law_450 rfl (lv_at hl 0 rfl) ?_
            refine lv_iconst (v := (nI (2))) hF.1 hF.2.1 d_A_law_451 (by decide) ?_
            refine lv_iadd hF.1 hF.2.1 d_A_law_452 ?_
            refine z_top (nI_add (i) (2)) ?_
            refine z_sld hF hX hbl hG hL hZ (i + 2) (by omega) d_A_law_453 ?_
            refine z_calli hZ (z_run cw_A_81 hF hZ (104) (c_M_edit l (ad := adG G) (by omega) hM hpm hso) (by decide) (by omega) hM.1 rfl rfl hl.1 rfl (Nat.le_of_ble_eq_true rfl) d_A_law_454) (fun v2 en2 H locs hp hZ => ?_)
            obtain ⟨hM, hf9, hp⟩ := hp
            have hS := hS.high (fun r hr => hf9 r (by omega))
            rcases hp with ⟨j2, u, hj2, hk2, -⟩ | ⟨-, hv2⟩
            · exact (ix_no (by omega) (wd_lt_of hj2) hk2 (Or.inr h3)).elim
            · subst hv2
              refine lv_icmp_eq (tgt := 485) hF.1 hF.2.1 d_A_law_457 (by decide) (fun _ => ?_) (fun h => absurd rfl h)
              exact nxt en2 (T) (sg) (C) (mw) H locs ls hS hM hpm hso hl hZ
          · obtain ⟨u, hju⟩ := wd_some hv
            refine lv_aload_n hF.1 hF.2.1 d_A_law_429 rfl (lv_at hl 2 rfl) ?_
            refine lv_aload_n hF.1 hF.2.1 d_A_law_430 rfl (lv_at hl 3 rfl) ?_
            refine lv_iload_n hF.1 hF.2.1 d_A_law_431 rfl (lv_at hl 0 rfl) ?_
            refine lv_iconst (v := (nI (1))) hF.1 hF.2.1 d_A_law_432 (by decide) ?_
            refine lv_iadd hF.1 hF.2.1 d_A_law_433 ?_
            refine z_top (nI_add (i) (1)) ?_
            refine z_sld hF hX hbl hG hL hZ (i + 1) (by omega) d_A_law_434 ?_
            refine z_top (y := (nI (v))) hxv ?_
            refine lv_aload_n hF.1 hF.2.1 d_A_law_435 rfl (lv_at hl 3 rfl) ?_
            refine lv_iload_n hF.1 hF.2.1 d_A_law_436 rfl (lv_at hl 0 rfl) ?_
            refine lv_iconst (v := (nI (2))) hF.1 hF.2.1 d_A_law_437 (by decide) ?_
            refine lv_iadd hF.1 hF.2.1 d_A_law_438 ?_
            refine z_top (nI_add (i) (2)) ?_
            refine z_sld hF hX hbl hG hL hZ (i + 2) (by omega) d_A_law_439 ?_
            refine z_calli hZ (z_run cw_A_78 hF hZ (0) (c_S_edit l (ad := adG G) (by omega) hS hju) (by decide) (by omega) hS.1 rfl rfl hl.1 rfl (Nat.le_of_ble_eq_true rfl) d_A_law_440) (fun v en1 H locs hq hZ => ?_)
            obtain ⟨hv1, hS, hf1⟩ := hq
            subst hv1
            have hM := hM.low hf1
            refine lv_aload_n hF.1 hF.2.1 d_A_law_443 rfl (lv_at hl 1 rfl) ?_
            refine lv_aload_n hF.1 hF.2.1 d_A_law_444 rfl (lv_at hl 3 rfl) ?_
            refine lv_iload_n hF.1 hF.2.1 d_A_law_445 rfl (lv_at hl 0 rfl) ?_
            refine lv_iconst (v := (nI (1))) hF.1 hF.2.1 d_A_law_446 (by decide) ?_
            refine lv_iadd hF.1 hF.2.1 d_A_law_447 ?_
            refine z_top (nI_add (i) (1)) ?_
            refine z_sld hF hX hbl hG hL hZ (i + 1) (by omega) d_A_law_448 ?_
            refine lv_aload_n hF.1 hF.2.1 d_A_law_449 rfl (lv_at hl 3 rfl) ?_
            refine lv_iload_n hF.1 hF.2.1 d_A_law_450 rfl (lv_at hl 0 rfl) ?_
            refine lv_iconst (v := (nI (2))) hF.1 hF.2.1 d_A_law_451 (by decide) ?_
            refine lv_iadd hF.1 hF.2.1 d_A_law_452 ?_
            refine z_top (nI_add (i) (2)) ?_
            refine z_sld hF hX hbl hG hL hZ (i + 2) (by omega) d_A_law_453 ?_
            refine z_calli hZ (z_run cw_A_81 hF hZ (104) (c_M_edit l (ad := adG G) (by omega) hM hpm hso) (by decide) (by omega) hM.1 rfl rfl hl.1 rfl (Nat.le_of_ble_eq_true rfl) d_A_law_454) (fun v2 en2 H locs hp hZ => ?_)
            obtain ⟨hM, hf9, hp⟩ := hp
            have hS := hS.high (fun r hr => hf9 r (by omega))
            rcases hp with ⟨j2, u2, hj2, hk2, hv2⟩ | ⟨hno, -⟩
            · have hjl := wd_lt_of hj2
              have hjj : v = j2 := (nI_eq (by omega) (by omega)).mp (hxv.symm.trans hk2)
              subst hjj
              cases hju.symm.trans hj2
              subst hv2
              refine lv_icmp_eq (tgt := 485) hF.1 hF.2.1 d_A_law_457 (by decide) (fun _ => ?_) (fun h => absurd rfl h)
              exact nxt en2 (T) (sg) (C) (mw) H locs ls hS hM hpm hso hl hZ
            · exact (ix_no (by omega) hv hxv hno).elim
        · refine lv_tableIn (tgt := 462) (off := 430) hF.1 hF.2.1 d_A_law_32 (by decide) (by decide) (by decide) (by decide) ?_
          rcases pk_ix (xs (i + 1)) (n := T.length + 1) (by omega) with h3 | h3 | ⟨v, hv, hxv⟩
          · refine lv_aload_n hF.1 hF.2.1 d_A_law_462 rfl (lv_at hl 2 rfl) ?_
            refine lv_aload_n hF.1 hF.2.1 d_A_law_463 rfl (lv_at hl 3 rfl) ?_
            refine lv_iload_n hF.1 hF.2.1 d_A_law_464 rfl (lv_at hl 0 rfl) ?_
            refine lv_iconst (v := (nI (1))) hF.1 hF.2.1 d_A_law_465 (by decide) ?_
            refine lv_iadd hF.1 hF.2.1 d_A_law_466 ?_
            refine z_top (nI_add (i) (1)) ?_
            refine z_sld hF hX hbl hG hL hZ (i + 1) (by omega) d_A_law_467 ?_
            refine z_calli hZ (z_run cw_A_82 hF hZ (0) (c_S_dropsNo l (ad := adG G) (by omega) hS (Or.inl h3)) (by decide) (by omega) hS.1 rfl rfl hl.1 rfl (Nat.le_of_ble_eq_true rfl) d_A_law_468) (fun v en1 H locs hq hZ => ?_)
            obtain ⟨he, hv1⟩ := hq
            subst hv1
            have hZ := hZ.to he
            refine lv_aload_n hF.1 hF.2.1 d_A_law_471 rfl (lv_at hl 1 rfl) ?_
            refine lv_aload_n hF.1 hF.2.1 d_A_law_472 rfl (lv_at hl 3 rfl) ?_
            refine lv_iload_n hF.1 hF.2.1 d_A_law_473 rfl (lv_at hl 0 rfl) ?_
            refine lv_iconst (v := (nI (1))) hF.1 hF.2.1 d_A_law_474 (by decide) ?_
            refine lv_iadd hF.1 hF.2.1 d_A_law_475 ?_
            refine z_top (nI_add (i) (1)) ?_
            refine z_sld hF hX hbl hG hL hZ (i + 1) (by omega) d_A_law_476 ?_
            refine z_calli hZ (z_run cw_A_85 hF hZ (104) (c_M_dropsNo l (ad := adG G) (by omega) hM (Or.inl h3)) (by decide) (by omega) hM.1 rfl rfl hl.1 rfl (Nat.le_of_ble_eq_true rfl) d_A_law_477) (fun v2 en2 H locs hq hZ => ?_)
            obtain ⟨he, hv2⟩ := hq
            subst hv2
            have hZ := hZ.to he
            refine lv_icmp_eq (tgt := 485) hF.1 hF.2.1 d_A_law_480 (by decide) (fun _ => ?_) (fun h => absurd rfl h)
            exact nxt en (T) (sg) (C) (mw) H locs ls hS hM hpm hso hl hZ
          · have h4 : nI T.length < (xs (i + 1)) := by
              rw [Int32.le_iff_toInt_le, nI_toInt (by omega)] at h3
              rw [Int32.lt_iff_toInt_lt, nI_toInt (by omega)]
              omega
            refine lv_aload_n hF.1 hF.2.1 d_A_law_462 rfl (lv_at hl 2 rfl) ?_
            refine lv_aload_n hF.1 hF.2.1 d_A_law_463 rfl (lv_at hl 3 rfl) ?_
            refine lv_iload_n hF.1 hF.2.1 d_A_law_464 rfl (lv_at hl 0 rfl) ?_
            refine lv_iconst (v := (nI (1))) hF.1 hF.2.1 d_A_law_465 (by decide) ?_
            refine lv_iadd hF.1 hF.2.1 d_A_law_466 ?_
            refine z_top (nI_add (i) (1)) ?_
            refine z_sld hF hX hbl hG hL hZ (i + 1) (by omega) d_A_law_467 ?_
            refine z_calli hZ (z_run cw_A_82 hF hZ (0) (c_S_dropsNo l (ad := adG G) (by omega) hS (Or.inr h4)) (by decide) (by omega) hS.1 rfl rfl hl.1 rfl (Nat.le_of_ble_eq_true rfl) d_A_law_468) (fun v en1 H locs hq hZ => ?_)
            obtain ⟨he, hv1⟩ := hq
            subst hv1
            have hZ := hZ.to he
            refine lv_aload_n hF.1 hF.2.1 d_A_law_471 rfl (lv_at hl 1 rfl) ?_
            refine lv_aload_n hF.1 hF.2.1 d_A_law_472 rfl (lv_at hl 3 rfl) ?_
            refine lv_iload_n hF.1 hF.2.1 d_A_law_473 rfl (lv_at hl 0 rfl) ?_
            refine lv_iconst (v := (nI (1))) hF.1 hF.2.1 d_A_law_474 (by decide) ?_
            refine lv_iadd hF.1 hF.2.1 d_A_law_475 ?_
            refine z_top (nI_add (i) (1)) ?_
            refine z_sld hF hX hbl hG hL hZ (i + 1) (by omega) d_A_law_476 ?_
            refine z_calli hZ (z_run cw_A_85 hF hZ (104) (c_M_dropsNo l (ad := adG G) (by omega) hM (Or.inr h4)) (by decide) (by omega) hM.1 rfl rfl hl.1 rfl (Nat.le_of_ble_eq_true rfl) d_A_law_477) (fun v2 en2 H locs hq hZ => ?_)
            obtain ⟨he, hv2⟩ := hq
            subst hv2
            have hZ := hZ.to he
            refine lv_icmp_eq (tgt := 485) hF.1 hF.2.1 d_A_law_480 (by decide) (fun _ => ?_) (fun h => absurd rfl h)
            exact nxt en (T) (sg) (C) (mw) H locs ls hS hM hpm hso hl hZ
          · refine lv_aload_n hF.1 hF.2.1 d_A_law_462 rfl (lv_at hl 2 rfl) ?_
            refine lv_aload_n hF.1 hF.2.1 d_A_law_463 rfl (lv_at hl 3 rfl) ?_
            refine lv_iload_n hF.1 hF.2.1 d_A_law_464 rfl (lv_at hl 0 rfl) ?_
            refine lv_iconst (v := (nI (1))) hF.1 hF.2.1 d_A_law_465 (by decide) ?_
            refine lv_iadd hF.1 hF.2.1 d_A_law_466 ?_
            refine z_top (nI_add (i) (1)) ?_
            refine z_sld hF hX hbl hG hL hZ (i + 1) (by omega) d_A_law_467 ?_
            refine z_top (y := (nI (v))) hxv ?_
            refine z_calli hZ (z_run cw_A_82 hF hZ (0) (c_S_drops l (ad := adG G) (by omega) hS (Nat.le_of_lt_succ hv)) (by decide) (by omega) hS.1 rfl rfl hl.1 rfl (Nat.le_of_ble_eq_true rfl) d_A_law_468) (fun v en1 H locs hq hZ => ?_)
            obtain ⟨hv1, hS, hf1⟩ := hq
            subst hv1
            have hM := hM.low hf1
            refine lv_aload_n hF.1 hF.2.1 d_A_law_471 rfl (lv_at hl 1 rfl) ?_
            refine lv_aload_n hF.1 hF.2.1 d_A_law_472 rfl (lv_at hl 3 rfl) ?_
            refine lv_iload_n hF.1 hF.2.1 d_A_law_473 rfl (lv_at hl 0 rfl) ?_
            refine lv_iconst (v := (nI (1))) hF.1 hF.2.1 d_A_law_474 (by decide) ?_
            refine lv_iadd hF.1 hF.2.1 d_A_law_475 ?_
            refine z_top (nI_add (i) (1)) ?_
            refine z_sld hF hX hbl hG hL hZ (i + 1) (by omega) d_A_law_476 ?_
            refine z_top (y := (nI (v))) hxv ?_
            refine z_calli hZ (z_run cw_A_85 hF hZ (104) (c_M_drops l (ad := adG G) (by omega) hM (Nat.le_of_lt_succ hv)) (by decide) (by omega) hM.1 rfl rfl hl.1 rfl (Nat.le_of_ble_eq_true rfl) d_A_law_477) (fun v2 en2 H locs hp hZ => ?_)
            obtain ⟨hM, hf9, hv2⟩ := hp
            have hS := hS.high (fun r hr => hf9 r (by omega))
            subst hv2
            refine lv_icmp_eq (tgt := 485) hF.1 hF.2.1 d_A_law_480 (by decide) (fun _ => ?_) (fun h => absurd rfl h)
            exact nxt en2 (T) (sg) (C) (mw) H locs ls hS hM hpm hso hl hZ
        · refine lv_tableOut (tgt := 485) hF.1 hF.2.1 d_A_law_32 (Or.inr (by rw [nI_toInt (by omega)]; omega)) (by decide) ?_
          exact nxt en (T) (sg) (C) (mw) H locs ls hS hM hpm hso hl hZ
  refine z_new (ci := kS) (fs := [.null, .null, .null, .null, .null]) t_S u_S t_S_ok rfl cl_A_7 ib_S in_S (fun j hj => by
      match j, hj with
      | 0, _ => rfl
      | 1, _ => rfl
      | 2, _ => rfl
      | 3, _ => rfl
      | 4, _ => rfl) hF hZ (by omega) (Nat.le_of_ble_eq_true rfl) (Nat.le_of_ble_eq_true rfl) d_A_law_0 (fun H hZ => ?_)
  obtain ⟨ze1, hn2⟩ : ∃ z, z = va_up en (0) (.inr (kS, [.null, .null, .null, .null, .null])) := ⟨_, rfl⟩
  have hZ : zH G (adG G) ze1 (1) s H _ := hZ.to hn2.symm
  have ff3 : ze1 (0) = .inr (kS, [.null, .null, .null, .null, .null]) := by rw [hn2]; exact va_up_self _ _ _
  refine lv_dup hF.1 hF.2.1 d_A_law_3 rfl ?_
  refine z_runI (n := 0) cd_S_init ml_A_9 in_S im_S_init rfl (by decide +kernel) hF hZ (by omega) (0) (c_S_init l ff3) ⟨(Nat.le_of_ble_eq_true rfl), (Nat.le_of_ble_eq_true rfl)⟩ ⟨(Nat.le_of_ble_eq_true rfl), (Nat.le_of_ble_eq_true rfl)⟩ rfl hl.1 rfl (Nat.le_of_ble_eq_true rfl) d_A_law_4 (fun en1 H locs hS hZ => ?_)
  refine lv_astore_n hF.1 hF.2.1 d_A_law_7 rfl hl (by decide) rfl (fun ls hl => ?_)
  have hl : lv_has ls 4 [(1, .ref (zb G + (0))), (0, .ref (b))] := hl
  refine z_new (ci := kM) (fs := [.null, .int (0), .null, .null, .null, .int (0), .null, .null]) t_M u_M t_M_ok rfl cl_A_10 ib_M in_M (fun j hj => by
      match j, hj with
      | 0, _ => rfl
      | 1, _ => rfl
      | 2, _ => rfl
      | 3, _ => rfl
      | 4, _ => rfl
      | 5, _ => rfl
      | 6, _ => rfl
      | 7, _ => rfl) hF hZ (by omega) (Nat.le_of_ble_eq_true rfl) (Nat.le_of_ble_eq_true rfl) d_A_law_8 (fun H hZ => ?_)
  obtain ⟨ze4, hn5⟩ : ∃ z, z = va_up en1 (104) (.inr (kM, [.null, .int (0), .null, .null, .null, .int (0), .null, .null])) := ⟨_, rfl⟩
  have hZ : zH G (adG G) ze4 (105) s H _ := hZ.to hn5.symm
  have ff6 : ze4 (104) = .inr (kM, [.null, .int (0), .null, .null, .null, .int (0), .null, .null]) := by rw [hn5]; exact va_up_self _ _ _
  refine lv_dup hF.1 hF.2.1 d_A_law_11 rfl ?_
  refine z_runI (n := 0) cd_M_init ml_A_12 in_M im_M_init rfl (by decide +kernel) hF hZ (by omega) (104) (c_M_init l ff6) ⟨(Nat.le_of_ble_eq_true rfl), (Nat.le_of_ble_eq_true rfl)⟩ ⟨(Nat.le_of_ble_eq_true rfl), (Nat.le_of_ble_eq_true rfl)⟩ rfl hl.1 rfl (Nat.le_of_ble_eq_true rfl) d_A_law_12 (fun en2 H locs hq hZ => ?_)
  obtain ⟨hM, hf2⟩ := hq
  have hS : pS G (adG G) en2 [] (fun k => k) [] := hS.high (fun r hr => by rw [hf2 r hr, hn5, va_up_ne _ _ (by omega)])
  refine lv_astore_n hF.1 hF.2.1 d_A_law_15 rfl hl (by decide) rfl (fun ls hl => ?_)
  have hl : lv_has ls 4 [(2, .ref (zb G + (104))), (1, .ref (zb G + (0))), (0, .ref (b))] := hl
  refine lv_iconst (v := (nI (0))) hF.1 hF.2.1 d_A_law_16 (by decide) ?_
  refine lv_istore_n hF.1 hF.2.1 d_A_law_17 rfl hl (by decide) rfl (fun ls hl => ?_)
  have hl : lv_has ls 4 [(3, .int (nI (0))), (2, .ref (zb G + (104))), (1, .ref (zb G + (0))), (0, .ref (b))] := hl
  refine W.widen (k := 600000) (n := 7302250) (Nat.le_of_ble_eq_true rfl) (Nat.le_of_ble_eq_true rfl) ?_
  exact loop L 0 en2 [] (fun k => k) [] [] _ _ ls (by omega) (by omega) hS hM (List.Perm.refl _) List.Pairwise.nil (lv_sub hl [0, 1, 2, 3] rfl) hZ
