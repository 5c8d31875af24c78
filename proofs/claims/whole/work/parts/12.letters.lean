set_option maxHeartbeats 4000000 in
set_option maxRecDepth 100000 in
theorem c_L_at (l : Launch) {G : zG} {ad : Nat → Nat} {en : Nat → va_E} {N : Nat} {k ka cap : Nat} {xs : List Nat} (hk : k < N) (hka : ka < N) (hne : k ≠ ka) (hcap : cap < 2 ^ 31) (h : pL G ad en k ka cap xs) (i : Int32) : zMi l y_L_at b_L_at 2 .int 1 G ad en N [.ref (ad (k)), .int (i)] (fun v en1 => en1 = en ∧ v = iv (atv xs i)) := by
  obtain ⟨e1, h1, h26, f, e2, h2⟩ := h
  refine z_met (by decide) (Nat.le_of_ble_eq_true rfl) ?_
  intro p e s m below meth c ls hF hr hlocks hnam hZ hl
  have hF : CallFix p m c b_L_at 2 s ([.ref (ad (k)), .int (i)] : List Value).toArray zz R_L := hF
  have hl : lv_has ls 2 [(0, .ref (ad (k))), (1, .int (i))] := hl
  rcases pk_ix i (n := xs.length) (by omega) with h3 | h3 | ⟨j, hj, rfl⟩
  · refine lv_iload_n hF.1 hF.2.1 d_L_at_0 rfl (lv_at hl 1 rfl) ?_
    refine lv_if_lt (tgt := 21) hF.1 hF.2.1 d_L_at_1 (by decide) (fun _ => ?_) (fun h => absurd h3 h)
    refine lv_iconst (v := ((-1))) hF.1 hF.2.1 d_L_at_21 (by decide) ?_
    exact z_iret hF hr hlocks hZ rfl ⟨rfl, by rw [atv_neg h3]; exact iv_0.symm⟩ d_L_at_22
  · have h4 : ¬ i < 0 := fun q => by
      rw [Int32.lt_iff_toInt_lt, Int32.toInt_zero] at q
      rw [Int32.le_iff_toInt_le, nI_toInt (by omega)] at h3
      omega
    refine lv_iload_n hF.1 hF.2.1 d_L_at_0 rfl (lv_at hl 1 rfl) ?_
    refine lv_if_lt (tgt := 21) hF.1 hF.2.1 d_L_at_1 (by decide) (fun h => absurd h h4) (fun _ => ?_)
    refine lv_iload_n hF.1 hF.2.1 d_L_at_4 rfl (lv_at hl 1 rfl) ?_
    refine lv_aload_n hF.1 hF.2.1 d_L_at_5 rfl (lv_at hl 0 rfl) ?_
    refine gf_L_15 hF hZ (k) hk e1 rfl d_L_at_6 ?_
    refine lv_icmp_ge (tgt := 21) hF.1 hF.2.1 d_L_at_9 (by decide) (fun _ => ?_) (fun h => absurd h3 h)
    refine lv_iconst (v := ((-1))) hF.1 hF.2.1 d_L_at_21 (by decide) ?_
    exact z_iret hF hr hlocks hZ rfl ⟨rfl, by rw [atv_big (by omega) h3 (Nat.le_refl _)]; exact iv_0.symm⟩ d_L_at_22
  · refine lv_iload_n hF.1 hF.2.1 d_L_at_0 rfl (lv_at hl 1 rfl) ?_
    refine lv_if_lt (tgt := 21) hF.1 hF.2.1 d_L_at_1 (by decide) (fun h => absurd h (nI_pos (by omega))) (fun _ => ?_)
    refine lv_iload_n hF.1 hF.2.1 d_L_at_4 rfl (lv_at hl 1 rfl) ?_
    refine lv_aload_n hF.1 hF.2.1 d_L_at_5 rfl (lv_at hl 0 rfl) ?_
    refine gf_L_15 hF hZ (k) hk e1 rfl d_L_at_6 ?_
    refine lv_icmp_ge (tgt := 21) hF.1 hF.2.1 d_L_at_9 (by decide) (fun h => absurd h (nI_ge hj (by omega))) (fun _ => ?_)
    refine lv_aload_n hF.1 hF.2.1 d_L_at_12 rfl (lv_at hl 0 rfl) ?_
    refine gf_L_9 hF hZ (k) hk e1 rfl d_L_at_13 ?_
    refine lv_iload_n hF.1 hF.2.1 d_L_at_16 rfl (lv_at hl 1 rfl) ?_
    refine z_iald hF hZ (ka) hka e2 (j) (by omega) (by omega) d_L_at_17 ?_
    refine lv_goto (tgt := 22) hF.1 hF.2.1 d_L_at_18 (by decide) ?_
    exact z_iret hF hr hlocks hZ rfl ⟨rfl, by rw [atv_nI (by omega), wd_cd_in hj, iv_s, h2 j hj]⟩ d_L_at_22
