theorem nI_m1 {p : Nat} (h : p < 2 ^ 31) : ¬ nI p = -1 := fun z => by
  have := nI_toInt h
  rw [z] at this
  have h1 : (-1 : Int32).toInt = -1 := by decide
  omega
theorem iinc_w (c : Nat) : nI c + Int32.ofInt (-1) = iv c := iinc_v c
set_option maxHeartbeats 4000000 in
set_option maxRecDepth 100000 in
theorem c_R_placeBefore (l : Launch) {G : zG} {ad : Nat → Nat} {en : Nat → va_E} {N : Nat} {k1 a1 c1 : Nat} {xs : List Nat} (hk1 : k1 < N) (ha1 : a1 < N) (hn1 : k1 ≠ a1) (hc1 : c1 < 2 ^ 31) (g : pL G ad en k1 a1 c1 xs) (hx : xs.length ≤ 10) (hN : 103 ≤ N) {M : Nat → Nat → Int32} (hT : pT G ad en 90 kR 11 M) {q : Nat} (hq : q < xs.length) : zMi l y_R_placeBefore b_R_placeBefore 4 .int 2 G ad en N [.ref (ad (90)), .ref (ad (k1)), .int (nI (q))] (fun v en1 => en1 = en ∧ ((∃ p, p < q ∧ xs.getD p 0 = xs.getD q 0 ∧ (∀ b, p < b → b < q → xs.getD b 0 ≠ xs.getD q 0) ∧ v = nI p) ∨ (v = -1 ∧ ∀ p, p < q → xs.getD p 0 ≠ xs.getD q 0))) := by
  have gg := g
  obtain ⟨e1, g1, g26, f1, e2, g2⟩ := gg
  have tt := hT
  obtain ⟨t1, ⟨tg, t2, t2g⟩, t3⟩ := tt
  refine z_met (by decide) (Nat.le_of_ble_eq_true rfl) ?_
  intro p e s m below meth c ls hF hr hlocks hnam hZ hl
  have hF : CallFix p m c b_R_placeBefore 4 s ([.ref (ad (90)), .ref (ad (k1)), .int (nI (q))] : List Value).toArray zz R_R := hF
  have hl : lv_has ls 4 [(0, .ref (ad (90))), (1, .ref (ad (k1))), (2, .int (nI (q)))] := hl
  have loop : ∀ (c0 : Nat) (H : Heap) (locs : List Loc) (ls : Array Slot), (c0 ≤ q) → (∀ b, c0 ≤ b → b < q → xs.getD b 0 ≠ xs.getD q 0) → lv_has ls 4 [(3, .int (iv c0)), (0, .ref (ad (90))), (1, .ref (ad (k1))), (2, .int (nI (q)))] → zH G ad en N s H locs → W p l e (zR 2) s m ([.ref (ad (90)), .ref (ad (k1)), .int (nI (q))] : List Value).toArray below meth c H locs 0 0 (MQ below (zQi G ad N (fun v en1 => en1 = en ∧ ((∃ p, p < q ∧ xs.getD p 0 = xs.getD q 0 ∧ (∀ b, p < b → b < q → xs.getD b 0 ≠ xs.getD q 0) ∧ v = nI p) ∨ (v = -1 ∧ ∀ p, p < q → xs.getD p 0 ≠ xs.getD q 0)))) ([.ref (ad (90)), .ref (ad (k1)), .int (nI (q))] : List Value).toArray s 0 0 (zA G)) (F0 m 4 ls []) := by
    intro c0
    induction c0 with
    | zero =>
      intro H locs ls hc hno hl hZ
      refine lv_iload_n hF.1 hF.2.1 d_R_placeBefore_4 rfl (lv_at hl 0 rfl) ?_
      refine lv_if_lt (tgt := 29) hF.1 hF.2.1 d_R_placeBefore_5 (by decide) (fun _ => ?_) (fun h => absurd (show iv 0 < 0 by decide) h)
      refine lv_iconst (v := ((-1))) hF.1 hF.2.1 d_R_placeBefore_29 (by decide) ?_
      exact z_iret hF hr hlocks hZ rfl ⟨rfl, Or.inr ⟨rfl, fun p hp => hno p (Nat.zero_le _) hp⟩⟩ d_R_placeBefore_30
    | succ c0 ih =>
      intro H locs ls hc hno hl hZ
      rw [iv_s] at hl
      refine lv_iload_n hF.1 hF.2.1 d_R_placeBefore_4 rfl (lv_at hl 0 rfl) ?_
      refine lv_if_lt (tgt := 29) hF.1 hF.2.1 d_R_placeBefore_5 (by decide) (fun h => absurd h (nI_pos (by omega))) (fun _ => ?_)
      refine lv_aload_n hF.1 hF.2.1 d_R_placeBefore_8 rfl (lv_at hl 2 rfl) ?_
      refine lv_iload_n hF.1 hF.2.1 d_R_placeBefore_9 rfl (lv_at hl 0 rfl) ?_
      refine z_calli hZ (z_run cw_R_30 hF hZ (k1) (c_L_atN l hk1 ha1 hn1 hc1 g (j := c0) (by omega)) (by decide) hk1 e1 rfl rfl hl.1 rfl (Nat.le_of_ble_eq_true rfl) d_R_placeBefore_10) (fun v enq H locs hp hZ => ?_)
      obtain ⟨he, hv⟩ := hp
      subst hv
      have hZ := hZ.to he
      refine lv_aload_n hF.1 hF.2.1 d_R_placeBefore_13 rfl (lv_at hl 2 rfl) ?_
      refine lv_iload_n hF.1 hF.2.1 d_R_placeBefore_14 rfl (lv_at hl 3 rfl) ?_
      refine z_calli hZ (z_run cw_R_30 hF hZ (k1) (c_L_atN l hk1 ha1 hn1 hc1 g (j := q) (by omega)) (by decide) hk1 e1 rfl rfl hl.1 rfl (Nat.le_of_ble_eq_true rfl) d_R_placeBefore_15) (fun v enq H locs hp hZ => ?_)
      obtain ⟨he, hv⟩ := hp
      subst hv
      have hZ := hZ.to he
      refine lv_icmp_ne (tgt := 23) hF.1 hF.2.1 d_R_placeBefore_18 (by decide) (fun y => ?_) (fun y => ?_)
      · have y : xs.getD c0 0 ≠ xs.getD q 0 := fun z => y (by rw [(cd_iff (by omega) (by omega)).mpr z])
        refine lv_iinc (k := 0) (v := (iv c0)) hF.1 hF.2.1 d_R_placeBefore_23 hl rfl (iinc_v c0) (by decide) rfl (fun ls hl => ?_)
        have hl : lv_has ls 4 [(3, .int (iv c0)), (0, .ref (ad (90))), (1, .ref (ad (k1))), (2, .int (nI (q)))] := hl
        refine lv_goto (tgt := 4) hF.1 hF.2.1 d_R_placeBefore_26 (by decide) ?_
        refine ih H locs ls (by omega) (fun b hb hb2 => ?_) hl hZ
        by_cases z : b = c0
        · rw [z]; exact y
        · exact hno b (by omega) hb2
      · have y : xs.getD c0 0 = xs.getD q 0 := (cd_iff (by omega) (by omega)).mp ((iv_eq (wd_cd_26 g26 c0) (wd_cd_26 g26 q)).mp y)
        refine lv_iload_n hF.1 hF.2.1 d_R_placeBefore_21 rfl (lv_at hl 0 rfl) ?_
        exact z_iret hF hr hlocks hZ rfl ⟨rfl, Or.inl ⟨c0, by omega, y, fun b hb hb2 => hno b (by omega) hb2, rfl⟩⟩ d_R_placeBefore_22
  refine lv_iload_n hF.1 hF.2.1 d_R_placeBefore_0 rfl (lv_at hl 2 rfl) ?_
  refine lv_iconst (v := (nI (1))) hF.1 hF.2.1 d_R_placeBefore_1 (by decide) ?_
  refine lv_isub hF.1 hF.2.1 d_R_placeBefore_2 ?_
  refine z_top (y := (iv q)) (show nI q - nI 1 = iv q from rfl) ?_
  refine lv_istore_n hF.1 hF.2.1 d_R_placeBefore_3 rfl hl (by decide) rfl (fun ls hl => ?_)
  have hl : lv_has ls 4 [(3, .int (iv q)), (0, .ref (ad (90))), (1, .ref (ad (k1))), (2, .int (nI (q)))] := hl
  exact loop q _ _ ls (Nat.le_refl _) (fun b hb hb2 => absurd hb2 (by omega)) hl hZ
set_option maxHeartbeats 4000000 in
set_option maxRecDepth 100000 in
theorem c_R_listsWithin (l : Launch) {G : zG} {ad : Nat → Nat} {en : Nat → va_E} {N : Nat} {k1 a1 c1 : Nat} {xs : List Nat} (hk1 : k1 < N) (ha1 : a1 < N) (hn1 : k1 ≠ a1) (hc1 : c1 < 2 ^ 31) (g : pL G ad en k1 a1 c1 xs) (hx : xs.length ≤ 10) (hN : 103 ≤ N) {M : Nat → Nat → Int32} (hT : pT G ad en 90 kR 11 M) {e0 r0 q r : Nat} (he0 : e0 = q + 1) (hr0 : r0 = r + 1) (hq : q < xs.length) (hr10 : r < 10) (hM : ∀ a b, a ≤ q → b ≤ r + 1 → M a b = nI (dr_K xs a b)) : zMi l y_R_listsWithin b_R_listsWithin 7 .int 3 G ad en N [.ref (ad (90)), .ref (ad (k1)), .int (nI (e0)), .int (nI (r0))] (fun v en1 => en1 = en ∧ v = nI (dr_K xs (q + 1) (r + 1))) := by
  have gg := g
  obtain ⟨e1, g1, g26, f1, e2, g2⟩ := gg
  have tt := hT
  obtain ⟨t1, ⟨tg, t2, t2g⟩, t3⟩ := tt
  subst he0
  subst hr0
  have b1 := dr_K_le xs (e := q) (r := r + 1) (by omega) (by omega)
  have b2 := dr_K_le xs (e := q) (r := r) (by omega) (by omega)
  obtain ⟨P, hP1, hP2, hP3⟩ := dr_rec xs g26 q r
  refine z_met (by decide) (Nat.le_of_ble_eq_true rfl) ?_
  intro p e s m below meth c ls hF hr hlocks hnam hZ hl
  have hF : CallFix p m c b_R_listsWithin 7 s ([.ref (ad (90)), .ref (ad (k1)), .int (nI (q + 1)), .int (nI (r + 1))] : List Value).toArray zz R_R := hF
  have hl : lv_has ls 7 [(0, .ref (ad (90))), (1, .ref (ad (k1))), (2, .int (nI (q + 1))), (3, .int (nI (r + 1)))] := hl
  refine lv_iload_n hF.1 hF.2.1 d_R_listsWithin_0 rfl (lv_at hl 2 rfl) ?_
  refine lv_iconst (v := (nI (1))) hF.1 hF.2.1 d_R_listsWithin_1 (by decide) ?_
  refine lv_isub hF.1 hF.2.1 d_R_listsWithin_2 ?_
  refine z_top (y := (nI (q))) (pk_sub (show 1 ≤ q + 1 by omega)) ?_
  refine lv_istore hF.1 hF.2.1 d_R_listsWithin_3 hl (by decide) rfl (fun ls hl => ?_)
  have hl : lv_has ls 7 [(4, .int (nI (q))), (0, .ref (ad (90))), (1, .ref (ad (k1))), (2, .int (nI (q + 1))), (3, .int (nI (r + 1)))] := hl
  refine lv_aload_n hF.1 hF.2.1 d_R_listsWithin_5 rfl (lv_at hl 1 rfl) ?_
  refine gf_R_11 hF hZ (90) (by omega) t1 rfl d_R_listsWithin_6 ?_
  refine lv_iload hF.1 hF.2.1 d_R_listsWithin_9 (lv_at hl 0 rfl) ?_
  refine z_mald hF hZ (90 + 1) (by omega) t2 (q) (by omega) (by omega) (t2g (q) (by omega)) d_R_listsWithin_11 ?_
  refine lv_iload_n hF.1 hF.2.1 d_R_listsWithin_12 rfl (lv_at hl 4 rfl) ?_
  refine z_iald hF hZ (90 + 2 + (q)) (by omega) (t3 (q) (by omega)) (r + 1) (by omega) (by omega) d_R_listsWithin_13 ?_
  refine z_top (y := (nI (dr_K xs q (r + 1)))) (hM q (r + 1) (by omega) (by omega)) ?_
  refine lv_aload_n hF.1 hF.2.1 d_R_listsWithin_14 rfl (lv_at hl 1 rfl) ?_
  refine gf_R_11 hF hZ (90) (by omega) t1 rfl d_R_listsWithin_15 ?_
  refine lv_iload hF.1 hF.2.1 d_R_listsWithin_18 (lv_at hl 0 rfl) ?_
  refine z_mald hF hZ (90 + 1) (by omega) t2 (q) (by omega) (by omega) (t2g (q) (by omega)) d_R_listsWithin_20 ?_
  refine lv_iload_n hF.1 hF.2.1 d_R_listsWithin_21 rfl (lv_at hl 4 rfl) ?_
  refine lv_iconst (v := (nI (1))) hF.1 hF.2.1 d_R_listsWithin_22 (by decide) ?_
  refine lv_isub hF.1 hF.2.1 d_R_listsWithin_23 ?_
  refine z_top (y := (nI (r))) (pk_sub (show 1 ≤ r + 1 by omega)) ?_
  refine z_iald hF hZ (90 + 2 + (q)) (by omega) (t3 (q) (by omega)) (r) (by omega) (by omega) d_R_listsWithin_24 ?_
  refine z_top (y := (nI (dr_K xs q r))) (hM q r (by omega) (by omega)) ?_
  refine lv_iadd hF.1 hF.2.1 d_R_listsWithin_25 ?_
  refine z_top (nI_add (dr_K xs q (r + 1)) (dr_K xs q r)) ?_
  refine lv_istore hF.1 hF.2.1 d_R_listsWithin_26 hl (by decide) rfl (fun ls hl => ?_)
  have hl : lv_has ls 7 [(5, .int (nI (dr_K xs q (r + 1) + dr_K xs q r))), (4, .int (nI (q))), (0, .ref (ad (90))), (1, .ref (ad (k1))), (2, .int (nI (q + 1))), (3, .int (nI (r + 1)))] := hl
  refine lv_aload_n hF.1 hF.2.1 d_R_listsWithin_28 rfl (lv_at hl 2 rfl) ?_
  refine lv_aload_n hF.1 hF.2.1 d_R_listsWithin_29 rfl (lv_at hl 3 rfl) ?_
  refine lv_iload hF.1 hF.2.1 d_R_listsWithin_30 (lv_at hl 1 rfl) ?_
  refine z_calli hZ (z_run cw_R_26 hF hZ (90) (c_R_placeBefore l hk1 ha1 hn1 hc1 g hx hN hT hq) (by decide) (by omega) t1 rfl rfl hl.1 rfl (Nat.le_of_ble_eq_true rfl) d_R_listsWithin_32) (fun v enq H locs hp hZ => ?_)
  obtain ⟨he, hd⟩ := hp
  have hZ := hZ.to he
  rcases hd with ⟨p0, hp1, hp2, hp3, hv⟩ | ⟨hv, hno⟩
  · subst hv
    have b3 := dr_K_le xs (e := p0) (r := r) (by omega) (by omega)
    have hPe := hP3 p0 hp1 hp2 hp3
    refine lv_istore hF.1 hF.2.1 d_R_listsWithin_35 hl (by decide) rfl (fun ls hl => ?_)
    have hl : lv_has ls 7 [(6, .int (nI (p0))), (5, .int (nI (dr_K xs q (r + 1) + dr_K xs q r))), (4, .int (nI (q))), (0, .ref (ad (90))), (1, .ref (ad (k1))), (2, .int (nI (q + 1))), (3, .int (nI (r + 1)))] := hl
    refine lv_iload hF.1 hF.2.1 d_R_listsWithin_37 (lv_at hl 0 rfl) ?_
    refine lv_iconst (v := ((-1))) hF.1 hF.2.1 d_R_listsWithin_39 (by decide) ?_
    refine lv_icmp_ne (tgt := 48) hF.1 hF.2.1 d_R_listsWithin_40 (by decide) (fun _ => ?_) (fun h => absurd h (nI_m1 (by omega)))
    refine lv_iload hF.1 hF.2.1 d_R_listsWithin_48 (lv_at hl 1 rfl) ?_
    refine lv_aload_n hF.1 hF.2.1 d_R_listsWithin_50 rfl (lv_at hl 3 rfl) ?_
    refine gf_R_11 hF hZ (90) (by omega) t1 rfl d_R_listsWithin_51 ?_
    refine lv_iload hF.1 hF.2.1 d_R_listsWithin_54 (lv_at hl 0 rfl) ?_
    refine z_mald hF hZ (90 + 1) (by omega) t2 (p0) (by omega) (by omega) (t2g (p0) (by omega)) d_R_listsWithin_56 ?_
    refine lv_iload_n hF.1 hF.2.1 d_R_listsWithin_57 rfl (lv_at hl 6 rfl) ?_
    refine lv_iconst (v := (nI (1))) hF.1 hF.2.1 d_R_listsWithin_58 (by decide) ?_
    refine lv_isub hF.1 hF.2.1 d_R_listsWithin_59 ?_
    refine z_top (y := (nI (r))) (pk_sub (show 1 ≤ r + 1 by omega)) ?_
    refine z_iald hF hZ (90 + 2 + (p0)) (by omega) (t3 (p0) (by omega)) (r) (by omega) (by omega) d_R_listsWithin_60 ?_
    refine z_top (y := (nI (dr_K xs p0 r))) (hM p0 r (by omega) (by omega)) ?_
    refine lv_isub hF.1 hF.2.1 d_R_listsWithin_61 ?_
    refine z_top (y := (nI (dr_K xs (q + 1) (r + 1)))) ((pk_sub (show dr_K xs p0 r ≤ dr_K xs q (r + 1) + dr_K xs q r by omega)).trans (by congr 1; omega)) ?_
    exact z_iret hF hr hlocks hZ rfl ⟨rfl, rfl⟩ d_R_listsWithin_62
  · subst hv
    have hPe := hP2 hno
    refine lv_istore hF.1 hF.2.1 d_R_listsWithin_35 hl (by decide) rfl (fun ls hl => ?_)
    have hl : lv_has ls 7 [(6, .int ((-1))), (5, .int (nI (dr_K xs q (r + 1) + dr_K xs q r))), (4, .int (nI (q))), (0, .ref (ad (90))), (1, .ref (ad (k1))), (2, .int (nI (q + 1))), (3, .int (nI (r + 1)))] := hl
    refine lv_iload hF.1 hF.2.1 d_R_listsWithin_37 (lv_at hl 0 rfl) ?_
    refine lv_iconst (v := ((-1))) hF.1 hF.2.1 d_R_listsWithin_39 (by decide) ?_
    refine lv_icmp_ne (tgt := 48) hF.1 hF.2.1 d_R_listsWithin_40 (by decide) (fun h => absurd rfl h) (fun _ => ?_)
    refine lv_iload hF.1 hF.2.1 d_R_listsWithin_43 (lv_at hl 1 rfl) ?_
    refine lv_goto (tgt := 62) hF.1 hF.2.1 d_R_listsWithin_45 (by decide) ?_
    exact z_iret hF hr hlocks hZ rfl ⟨rfl, by congr 1; omega⟩ d_R_listsWithin_62
set_option maxHeartbeats 4000000 in
set_option maxRecDepth 100000 in
theorem c_R_listsOf (l : Launch) {G : zG} {ad : Nat → Nat} {en : Nat → va_E} {N : Nat} {k1 a1 c1 : Nat} {xs : List Nat} (hk1 : k1 < N) (ha1 : a1 < N) (hn1 : k1 ≠ a1) (hc1 : c1 < 2 ^ 31) (g : pL G ad en k1 a1 c1 xs) (hx : xs.length ≤ 10) (hN : 103 ≤ N) {M : Nat → Nat → Int32} (hT : pT G ad en 90 kR 11 M) (r1 : k1 < 90 ∨ 103 ≤ k1) (r2 : a1 < 90 ∨ 103 ≤ a1) {wv : Nat} (hw : wv ≤ xs.length) : zMi l y_R_listsOf b_R_listsOf 5 .int 4 G ad en N [.ref (ad (90)), .ref (ad (k1)), .int (nI (wv))] (fun v en1 => v = nI (dr_K xs xs.length wv) ∧ (∃ M1, pT G ad en1 90 kR 11 M1) ∧ ∀ r, r < 90 ∨ 103 ≤ r → en1 r = en r) := by
  refine z_met (by decide) (Nat.le_of_ble_eq_true rfl) ?_
  intro p e s m below meth c ls hF hr hlocks hnam hZ hl
  have hF : CallFix p m c b_R_listsOf 5 s ([.ref (ad (90)), .ref (ad (k1)), .int (nI (wv))] : List Value).toArray zz R_R := hF
  have hl : lv_has ls 5 [(0, .ref (ad (90))), (1, .ref (ad (k1))), (2, .int (nI (wv)))] := hl
  have inner : ∀ (n r q : Nat) (M : Nat → Nat → Int32) (en1 : Nat → va_E) (H : Heap) (locs : List Loc) (ls : Array Slot), r + n = wv → q ≤ xs.length → (pT G ad en1 90 kR 11 M) → (∀ r, r < 90 ∨ 103 ≤ r → en1 r = en r) → (∀ a b, a < q → b ≤ wv → M a b = nI (dr_K xs a b)) → (∀ b, b ≤ r → M q b = nI (dr_K xs q b)) → (∀ (M : Nat → Nat → Int32) (en1 : Nat → va_E) (H : Heap) (locs : List Loc) (ls : Array Slot), (pT G ad en1 90 kR 11 M) → (∀ r, r < 90 ∨ 103 ≤ r → en1 r = en r) → (∀ a b, a ≤ q → b ≤ wv → M a b = nI (dr_K xs a b)) → lv_has ls 5 [(4, .int (nI (wv + 1))), (3, .int (nI (q))), (0, .ref (ad (90))), (1, .ref (ad (k1))), (2, .int (nI (wv)))] → zH G ad en1 N s H locs → W p l e (zR 4) s m ([.ref (ad (90)), .ref (ad (k1)), .int (nI (wv))] : List Value).toArray below meth c H locs 0 0 (MQ below (zQi G ad N (fun v en1 => v = nI (dr_K xs xs.length wv) ∧ (∃ M1, pT G ad en1 90 kR 11 M1) ∧ ∀ r, r < 90 ∨ 103 ≤ r → en1 r = en r)) ([.ref (ad (90)), .ref (ad (k1)), .int (nI (wv))] : List Value).toArray s 0 0 (zA G)) (F0 m 59 ls [])) → lv_has ls 5 [(4, .int (nI (r + 1))), (3, .int (nI (q))), (0, .ref (ad (90))), (1, .ref (ad (k1))), (2, .int (nI (wv)))] → zH G ad en1 N s H locs → W p l e (zR 4) s m ([.ref (ad (90)), .ref (ad (k1)), .int (nI (wv))] : List Value).toArray below meth c H locs 0 0 (MQ below (zQi G ad N (fun v en1 => v = nI (dr_K xs xs.length wv) ∧ (∃ M1, pT G ad en1 90 kR 11 M1) ∧ ∀ r, r < 90 ∨ 103 ≤ r → en1 r = en r)) ([.ref (ad (90)), .ref (ad (k1)), .int (nI (wv))] : List Value).toArray s 0 0 (zA G)) (F0 m 22 ls []) := by
    intro n
    induction n with
    | zero =>
      intro r q M en1 H locs ls hin hq hT hfr hM1 hM2 K hl hZ
      refine lv_iload hF.1 hF.2.1 d_R_listsOf_22 (lv_at hl 0 rfl) ?_
      refine lv_iload_n hF.1 hF.2.1 d_R_listsOf_24 rfl (lv_at hl 4 rfl) ?_
      refine lv_icmp_gt (tgt := 59) hF.1 hF.2.1 d_R_listsOf_25 (by decide) (fun _ => ?_) (fun h => absurd (nI_lt (show wv < r + 1 by omega) (by omega)) h)
      have hrw : r = wv := by omega
      subst hrw
      refine K M en1 H locs ls hT hfr (fun a b ha hb => ?_) hl hZ
      by_cases z : a = q
      · subst z; exact hM2 b hb
      · exact hM1 a b (by omega) hb
    | succ n ih =>
      intro r q M en1 H locs ls hin hq hT hfr hM1 hM2 K hl hZ
      have g0 := g.keep (hfr k1 r1) (hfr a1 r2)
      have gg := g0
      obtain ⟨e1, g1, g26, f1, e2, g2⟩ := gg
      have tt := hT
      obtain ⟨t1, ⟨tg, t2, t2g⟩, t3⟩ := tt
      refine lv_iload hF.1 hF.2.1 d_R_listsOf_22 (lv_at hl 0 rfl) ?_
      refine lv_iload_n hF.1 hF.2.1 d_R_listsOf_24 rfl (lv_at hl 4 rfl) ?_
      refine lv_icmp_gt (tgt := 59) hF.1 hF.2.1 d_R_listsOf_25 (by decide) (fun h => absurd h (nI_nlt (show r + 1 ≤ wv by omega) (by omega))) (fun _ => ?_)
      refine lv_aload_n hF.1 hF.2.1 d_R_listsOf_28 rfl (lv_at hl 2 rfl) ?_
      refine gf_R_11 hF hZ (90) (by omega) t1 rfl d_R_listsOf_29 ?_
      refine lv_iload_n hF.1 hF.2.1 d_R_listsOf_32 rfl (lv_at hl 1 rfl) ?_
      refine z_mald hF hZ (90 + 1) (by omega) t2 (q) (by omega) (by omega) (t2g (q) (by omega)) d_R_listsOf_33 ?_
      refine lv_iload hF.1 hF.2.1 d_R_listsOf_34 (lv_at hl 0 rfl) ?_
      refine lv_iload_n hF.1 hF.2.1 d_R_listsOf_36 rfl (lv_at hl 1 rfl) ?_
      refine lv_if_ne (tgt := 44) hF.1 hF.2.1 d_R_listsOf_37 (by decide) (fun y => ?_) (fun y => ?_)
      · have y : ¬ q = 0 := fun z => y (by rw [z]; rfl)
        refine lv_aload_n hF.1 hF.2.1 d_R_listsOf_44 rfl (lv_at hl 2 rfl) ?_
        refine lv_aload_n hF.1 hF.2.1 d_R_listsOf_45 rfl (lv_at hl 3 rfl) ?_
        refine lv_iload_n hF.1 hF.2.1 d_R_listsOf_46 rfl (lv_at hl 1 rfl) ?_
        refine lv_iload hF.1 hF.2.1 d_R_listsOf_47 (lv_at hl 0 rfl) ?_
        refine z_calli hZ (z_run cw_R_22 hF hZ (90) (c_R_listsWithin l hk1 ha1 hn1 hc1 g0 hx hN hT (e0 := q) (r0 := r + 1) (q := q - 1) (r := r) (by omega) rfl (by omega) (by omega) (fun a b ha hb => hM1 a b (by omega) (by omega))) (by decide) (by omega) t1 rfl rfl hl.1 rfl (Nat.le_of_ble_eq_true rfl) d_R_listsOf_49) (fun v enq H locs hp hZ => ?_)
        obtain ⟨he, hv⟩ := hp
        subst hv
        have hZ := hZ.to he
        have hval : nI (dr_K xs (q - 1 + 1) (r + 1)) = nI (dr_K xs q (r + 1)) := by rw [show q - 1 + 1 = q by omega]
        refine z_iast hF hZ (90 + 2 + (q)) (by omega) (t3 (q) (by omega)) (r + 1) (by omega) (by omega) d_R_listsOf_52 (fun H locs hZ => ?_)
        obtain ⟨ze1, hn2⟩ : ∃ z, z = va_up en1 (90 + 2 + (q)) (.inl (zI G, 11, .inl (upd (M (q)) (r + 1) (nI (dr_K xs (q - 1 + 1) (r + 1)))))) := ⟨_, rfl⟩
        have hZ : zH G ad ze1 N s H locs := hZ.to hn2.symm
        have ff3 : ze1 (k1) = .inr (kL, [.ref (ad (a1)), .int (nI (xs.length))]) := by rw [hn2, va_up_ne _ _ (by omega)]; exact e1
        have ff4 : ze1 (a1) = .inl (zI G, c1, .inl (f1)) := by rw [hn2, va_up_ne _ _ (by omega)]; exact e2
        have ff5 : ze1 (90) = .inr (kR, [.ref (ad (90 + 1))]) := by rw [hn2, va_up_ne _ _ (by omega)]; exact t1
        have ff6 : ze1 (90 + 1) = .inl (zM G, 11, z_refs tg) := by rw [hn2, va_up_ne _ _ (by omega)]; exact t2
        have ff7 : ze1 (90 + 2 + (q)) = .inl (zI G, 11, .inl (upd (M (q)) (r + 1) (nI (dr_K xs (q - 1 + 1) (r + 1))))) := by rw [hn2]; exact va_up_self _ _ _
        have hT3 : pT G ad ze1 90 kR 11 (tset M q (r + 1) (nI (dr_K xs (q - 1 + 1) (r + 1)))) := by rw [hn2]; exact hT.set (by omega)
        refine lv_iinc (k := 0) (v := (nI (r + 1 + 1))) hF.1 hF.2.1 d_R_listsOf_53 hl rfl (iinc_p (r + 1)) (by decide) rfl (fun ls hl => ?_)
        have hl : lv_has ls 5 [(4, .int (nI (r + 1 + 1))), (3, .int (nI (q))), (0, .ref (ad (90))), (1, .ref (ad (k1))), (2, .int (nI (wv)))] := hl
        refine lv_goto (tgt := 22) hF.1 hF.2.1 d_R_listsOf_56 (by decide) ?_
        refine ih (r + 1) q (tset M q (r + 1) (nI (dr_K xs (q - 1 + 1) (r + 1)))) ze1 H locs ls (by omega) hq hT3 (fun a ha => ?_) (fun a b ha hb => ?_) (fun b hb => ?_) K hl hZ
        · rw [hn2, va_up_ne _ _ (by omega)]; exact hfr a ha
        · unfold tset; rw [if_neg (by omega)]; exact hM1 a b ha hb
        · unfold tset
          by_cases y : b = r + 1
          · subst y; rw [if_pos ⟨rfl, rfl⟩, hval]
          · rw [if_neg (fun u => y u.2)]; exact hM2 b (by omega)
      · have y : q = 0 := (nI_eq (by omega) (by omega)).mp y
        refine lv_iconst (v := (nI (0))) hF.1 hF.2.1 d_R_listsOf_40 (by decide) ?_
        refine lv_goto (tgt := 52) hF.1 hF.2.1 d_R_listsOf_41 (by decide) ?_
        have hval : nI 0 = nI (dr_K xs q (r + 1)) := by rw [y, dr_K00]
        refine z_iast hF hZ (90 + 2 + (q)) (by omega) (t3 (q) (by omega)) (r + 1) (by omega) (by omega) d_R_listsOf_52 (fun H locs hZ => ?_)
        obtain ⟨ze8, hn9⟩ : ∃ z, z = va_up en1 (90 + 2 + (q)) (.inl (zI G, 11, .inl (upd (M (q)) (r + 1) (nI (0))))) := ⟨_, rfl⟩
        have hZ : zH G ad ze8 N s H locs := hZ.to hn9.symm
        have ff10 : ze8 (k1) = .inr (kL, [.ref (ad (a1)), .int (nI (xs.length))]) := by rw [hn9, va_up_ne _ _ (by omega)]; exact e1
        have ff11 : ze8 (a1) = .inl (zI G, c1, .inl (f1)) := by rw [hn9, va_up_ne _ _ (by omega)]; exact e2
        have ff12 : ze8 (90) = .inr (kR, [.ref (ad (90 + 1))]) := by rw [hn9, va_up_ne _ _ (by omega)]; exact t1
        have ff13 : ze8 (90 + 1) = .inl (zM G, 11, z_refs tg) := by rw [hn9, va_up_ne _ _ (by omega)]; exact t2
        have ff14 : ze8 (90 + 2 + (q)) = .inl (zI G, 11, .inl (upd (M (q)) (r + 1) (nI (0)))) := by rw [hn9]; exact va_up_self _ _ _
        have hT3 : pT G ad ze8 90 kR 11 (tset M q (r + 1) (nI (0))) := by rw [hn9]; exact hT.set (by omega)
        refine lv_iinc (k := 0) (v := (nI (r + 1 + 1))) hF.1 hF.2.1 d_R_listsOf_53 hl rfl (iinc_p (r + 1)) (by decide) rfl (fun ls hl => ?_)
        have hl : lv_has ls 5 [(4, .int (nI (r + 1 + 1))), (3, .int (nI (q))), (0, .ref (ad (90))), (1, .ref (ad (k1))), (2, .int (nI (wv)))] := hl
        refine lv_goto (tgt := 22) hF.1 hF.2.1 d_R_listsOf_56 (by decide) ?_
        refine ih (r + 1) q (tset M q (r + 1) (nI (0))) ze8 H locs ls (by omega) hq hT3 (fun a ha => ?_) (fun a b ha hb => ?_) (fun b hb => ?_) K hl hZ
        · rw [hn9, va_up_ne _ _ (by omega)]; exact hfr a ha
        · unfold tset; rw [if_neg (by omega)]; exact hM1 a b ha hb
        · unfold tset
          by_cases y : b = r + 1
          · subst y; rw [if_pos ⟨rfl, rfl⟩, hval]
          · rw [if_neg (fun u => y u.2)]; exact hM2 b (by omega)
  have outer : ∀ (n q : Nat) (M : Nat → Nat → Int32) (en1 : Nat → va_E) (H : Heap) (locs : List Loc) (ls : Array Slot), (q + n = xs.length + 1) → (pT G ad en1 90 kR 11 M) → (∀ r, r < 90 ∨ 103 ≤ r → en1 r = en r) → (∀ a b, a < q → b ≤ wv → M a b = nI (dr_K xs a b)) → lv_has ls 5 [(3, .int (nI (q))), (0, .ref (ad (90))), (1, .ref (ad (k1))), (2, .int (nI (wv)))] → zH G ad en1 N s H locs → W p l e (zR 4) s m ([.ref (ad (90)), .ref (ad (k1)), .int (nI (wv))] : List Value).toArray below meth c H locs 0 0 (MQ below (zQi G ad N (fun v en1 => v = nI (dr_K xs xs.length wv) ∧ (∃ M1, pT G ad en1 90 kR 11 M1) ∧ ∀ r, r < 90 ∨ 103 ≤ r → en1 r = en r)) ([.ref (ad (90)), .ref (ad (k1)), .int (nI (wv))] : List Value).toArray s 0 0 (zA G)) (F0 m 2 ls []) := by
    intro n
    induction n with
    | zero =>
      intro q M en1 H locs ls hin hT hfr hM hl hZ
      have g0 := g.keep (hfr k1 r1) (hfr a1 r2)
      have gg := g0
      obtain ⟨e1, g1, g26, f1, e2, g2⟩ := gg
      have tt := hT
      obtain ⟨t1, ⟨tg, t2, t2g⟩, t3⟩ := tt
      refine lv_iload_n hF.1 hF.2.1 d_R_listsOf_2 rfl (lv_at hl 0 rfl) ?_
      refine lv_aload_n hF.1 hF.2.1 d_R_listsOf_3 rfl (lv_at hl 2 rfl) ?_
      refine gf_R_16 hF hZ (k1) hk1 e1 rfl d_R_listsOf_4 ?_
      refine lv_icmp_gt (tgt := 65) hF.1 hF.2.1 d_R_listsOf_7 (by decide) (fun _ => ?_) (fun h => absurd (nI_lt (show xs.length < q by omega) (by omega)) h)
      refine lv_aload_n hF.1 hF.2.1 d_R_listsOf_65 rfl (lv_at hl 1 rfl) ?_
      refine gf_R_11 hF hZ (90) (by omega) t1 rfl d_R_listsOf_66 ?_
      refine lv_aload_n hF.1 hF.2.1 d_R_listsOf_69 rfl (lv_at hl 2 rfl) ?_
      refine gf_R_16 hF hZ (k1) hk1 e1 rfl d_R_listsOf_70 ?_
      refine z_mald hF hZ (90 + 1) (by omega) t2 (xs.length) (by omega) (by omega) (t2g (xs.length) (by omega)) d_R_listsOf_73 ?_
      refine lv_iload_n hF.1 hF.2.1 d_R_listsOf_74 rfl (lv_at hl 3 rfl) ?_
      refine z_iald hF hZ (90 + 2 + (xs.length)) (by omega) (t3 (xs.length) (by omega)) (wv) (by omega) (by omega) d_R_listsOf_75 ?_
      exact z_iret hF hr hlocks hZ rfl ⟨hM _ _ (by omega) (Nat.le_refl _), ⟨M, hT⟩, hfr⟩ d_R_listsOf_76
    | succ n ih =>
      intro q M en1 H locs ls hin hT hfr hM hl hZ
      have g0 := g.keep (hfr k1 r1) (hfr a1 r2)
      have gg := g0
      obtain ⟨e1, g1, g26, f1, e2, g2⟩ := gg
      have tt := hT
      obtain ⟨t1, ⟨tg, t2, t2g⟩, t3⟩ := tt
      refine lv_iload_n hF.1 hF.2.1 d_R_listsOf_2 rfl (lv_at hl 0 rfl) ?_
      refine lv_aload_n hF.1 hF.2.1 d_R_listsOf_3 rfl (lv_at hl 2 rfl) ?_
      refine gf_R_16 hF hZ (k1) hk1 e1 rfl d_R_listsOf_4 ?_
      refine lv_icmp_gt (tgt := 65) hF.1 hF.2.1 d_R_listsOf_7 (by decide) (fun h => absurd h (nI_nlt (show q ≤ xs.length by omega) (by omega))) (fun _ => ?_)
      refine lv_aload_n hF.1 hF.2.1 d_R_listsOf_10 rfl (lv_at hl 1 rfl) ?_
      refine gf_R_11 hF hZ (90) (by omega) t1 rfl d_R_listsOf_11 ?_
      refine lv_iload_n hF.1 hF.2.1 d_R_listsOf_14 rfl (lv_at hl 0 rfl) ?_
      refine z_mald hF hZ (90 + 1) (by omega) t2 (q) (by omega) (by omega) (t2g (q) (by omega)) d_R_listsOf_15 ?_
      refine lv_iconst (v := (nI (0))) hF.1 hF.2.1 d_R_listsOf_16 (by decide) ?_
      refine lv_iconst (v := (nI (1))) hF.1 hF.2.1 d_R_listsOf_17 (by decide) ?_
      refine z_iast hF hZ (90 + 2 + (q)) (by omega) (t3 (q) (by omega)) (0) (by omega) (by omega) d_R_listsOf_18 (fun H locs hZ => ?_)
      obtain ⟨ze15, hn16⟩ : ∃ z, z = va_up en1 (90 + 2 + (q)) (.inl (zI G, 11, .inl (upd (M (q)) (0) (nI (1))))) := ⟨_, rfl⟩
      have hZ : zH G ad ze15 N s H locs := hZ.to hn16.symm
      have ff17 : ze15 (k1) = .inr (kL, [.ref (ad (a1)), .int (nI (xs.length))]) := by rw [hn16, va_up_ne _ _ (by omega)]; exact e1
      have ff18 : ze15 (a1) = .inl (zI G, c1, .inl (f1)) := by rw [hn16, va_up_ne _ _ (by omega)]; exact e2
      have ff19 : ze15 (90) = .inr (kR, [.ref (ad (90 + 1))]) := by rw [hn16, va_up_ne _ _ (by omega)]; exact t1
      have ff20 : ze15 (90 + 1) = .inl (zM G, 11, z_refs tg) := by rw [hn16, va_up_ne _ _ (by omega)]; exact t2
      have ff21 : ze15 (90 + 2 + (q)) = .inl (zI G, 11, .inl (upd (M (q)) (0) (nI (1)))) := by rw [hn16]; exact va_up_self _ _ _
      have hT3 : pT G ad ze15 90 kR 11 (tset M q 0 (nI (1))) := by rw [hn16]; exact hT.set (by omega)
      refine lv_iconst (v := (nI (1))) hF.1 hF.2.1 d_R_listsOf_19 (by decide) ?_
      refine lv_istore hF.1 hF.2.1 d_R_listsOf_20 hl (by decide) rfl (fun ls hl => ?_)
      have hl : lv_has ls 5 [(4, .int (nI (1))), (3, .int (nI (q))), (0, .ref (ad (90))), (1, .ref (ad (k1))), (2, .int (nI (wv)))] := hl
      refine inner wv 0 q (tset M q 0 (nI (1))) ze15 H locs ls (by omega) (by omega) hT3 (fun a ha => ?_) (fun a b ha hb => ?_) (fun b hb => ?_) (fun M3 en3 H locs ls hT hfr hM3 hl hZ => ?_) hl hZ
      · rw [hn16, va_up_ne _ _ (by omega)]; exact hfr a ha
      · unfold tset; rw [if_neg (by omega)]; exact hM a b ha hb
      · have hb0 : b = 0 := by omega
        subst hb0
        unfold tset; rw [if_pos ⟨rfl, rfl⟩, dr_K0]
      · refine lv_iinc (k := 1) (v := (nI (q + 1))) hF.1 hF.2.1 d_R_listsOf_59 hl rfl (iinc_p (q)) (by decide) rfl (fun ls hl => ?_)
        have hl : lv_has ls 5 [(3, .int (nI (q + 1))), (4, .int (nI (wv + 1))), (0, .ref (ad (90))), (1, .ref (ad (k1))), (2, .int (nI (wv)))] := hl
        refine lv_goto (tgt := 2) hF.1 hF.2.1 d_R_listsOf_62 (by decide) ?_
        exact ih (q + 1) M3 en3 H locs ls (by omega) hT hfr (fun a b ha hb => hM3 a b (by omega) hb) (lv_sub hl [0, 2, 3, 4] rfl) hZ
  refine lv_iconst (v := (nI (0))) hF.1 hF.2.1 d_R_listsOf_0 (by decide) ?_
  refine lv_istore_n hF.1 hF.2.1 d_R_listsOf_1 rfl hl (by decide) rfl (fun ls hl => ?_)
  have hl : lv_has ls 5 [(3, .int (nI (0))), (0, .ref (ad (90))), (1, .ref (ad (k1))), (2, .int (nI (wv)))] := hl
  exact outer (xs.length + 1) 0 M en _ _ ls (by omega) hT (fun _ _ => rfl) (fun a b ha => absurd ha (Nat.not_lt_zero _)) hl hZ
