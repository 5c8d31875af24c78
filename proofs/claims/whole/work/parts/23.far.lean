/-- the reference's flood: all but role 109 is as in en; role 109 holds rho -/
def fw (G : zG) (en en1 : Nat → va_E) (rho : Nat → Nat) : Prop := (∀ r, r ≠ 109 → en1 r = en r) ∧ ∃ f : Nat → Int32, en1 109 = .inl (zI G, 99, .inl f) ∧ ∀ x, x < 99 → f x = iv (rho x)
theorem bf_lt {t w : List Nat} {ds b : Nat} {rho : Nat → Nat} (h : bf_ok t w ds b rho) (hb : b < 2 ^ 30) : ∀ x, x < 99 → rho x < 2 ^ 31 := fun x hx => by
  by_cases q : rho x = 0
  · omega
  · have := h x hx q; omega
theorem bf_r_lt {rho : Nat → Nat} {p c : Nat} (h : ∀ x, x < 99 → rho x < 2 ^ 31) (hc : c < 2 ^ 30) : ∀ x, x < 99 → bf_r rho p c x < 2 ^ 31 := fun x hx => by
  unfold bf_r
  split
  · omega
  · exact h x hx
set_option maxHeartbeats 4000000 in
set_option maxRecDepth 100000 in
theorem c_M_reach (l : Launch) {G : zG} {ad : Nat → Nat} {en : Nat → va_E} {N : Nat} {en0 : Nat → va_E} {T : List Nat} {mw : List wd_W} (hN : 111 ≤ N) (h : pM G ad en0 T mw) {rho : Nat → Nat} (hw : fw G en0 en rho) (hb : ∀ x, x < 99 → rho x < 2 ^ 31) {q k : Nat} (hq : q < 99) (hk : k < 2 ^ 30) : zMv l y_M_reach b_M_reach 3 1 G ad en N [.ref (ad (104)), .int (nI (q)), .int (nI (k))] (fun en1 => fw G en0 en1 (bf_r rho q k)) := by
  obtain ⟨hfr, f, e9, hf⟩ := hw
  have hh := h
  obtain ⟨p1, -⟩ := hh
  have p1 := (hfr 104 (by omega)).trans p1
  have hqb := hb q hq
  refine z_met (by decide) (Nat.le_of_ble_eq_true rfl) ?_
  intro p e s m below meth c ls hF hr hlocks hnam hZ hl
  have hF : CallFix p m c b_M_reach 3 s ([.ref (ad (104)), .int (nI (q)), .int (nI (k))] : List Value).toArray zz R_M := hF
  have hl : lv_has ls 3 [(0, .ref (ad (104))), (1, .int (nI (q))), (2, .int (nI (k)))] := hl
  refine lv_aload_n hF.1 hF.2.1 d_M_reach_0 rfl (lv_at hl 0 rfl) ?_
  refine gf_M_22 hF hZ (104) (by omega) p1 rfl d_M_reach_1 ?_
  refine lv_iload_n hF.1 hF.2.1 d_M_reach_4 rfl (lv_at hl 1 rfl) ?_
  refine z_iald hF hZ (109) (by omega) e9 (q) (by omega) (by omega) d_M_reach_5 ?_
  refine z_top (y := (iv (rho q))) (hf q hq) ?_
  refine lv_if_ge (tgt := 16) hF.1 hF.2.1 d_M_reach_6 (by decide) (fun z => ?_) (fun z => ?_)
  · have z : rho q ≠ 0 := fun y => by rw [y] at z; exact absurd z (by decide)
    exact z_vret hF hr hlocks hZ ⟨hfr, f, e9, fun x hx => by rw [bf_r_no z]; exact hf x hx⟩ d_M_reach_16
  · have z : rho q = 0 := Classical.byContradiction (fun y => z (by
      obtain ⟨v, hv⟩ : ∃ v, rho q = v + 1 := ⟨rho q - 1, by omega⟩
      rw [hv, iv_s]; exact nI_pos' (by omega)))
    refine lv_aload_n hF.1 hF.2.1 d_M_reach_9 rfl (lv_at hl 0 rfl) ?_
    refine gf_M_22 hF hZ (104) (by omega) p1 rfl d_M_reach_10 ?_
    refine lv_iload_n hF.1 hF.2.1 d_M_reach_13 rfl (lv_at hl 1 rfl) ?_
    refine lv_iload_n hF.1 hF.2.1 d_M_reach_14 rfl (lv_at hl 2 rfl) ?_
    refine z_iast hF hZ (109) (by omega) e9 (q) (by omega) (by omega) d_M_reach_15 (fun H locs hZ => ?_)
    obtain ⟨ze1, hn2⟩ : ∃ z, z = va_up en (109) (.inl (zI G, 99, .inl (upd (f) (q) (nI (k))))) := ⟨_, rfl⟩
    have hZ : zH G ad ze1 N s H locs := hZ.to hn2.symm
    have ff3 : ze1 (104) = .inr (kM, [.ref (ad (105)), .int (nI (T.length)), .ref (ad (106)), .ref (ad (107)), .ref (ad (108)), .int (nI (mw.length)), .ref (ad (109)), .ref (ad (110))]) := by rw [hn2, va_up_ne _ _ (by omega)]; exact p1
    have ff4 : ze1 (109) = .inl (zI G, 99, .inl (upd (f) (q) (nI (k)))) := by rw [hn2]; exact va_up_self _ _ _
    exact z_vret hF hr hlocks hZ ⟨fun r hr => by rw [hn2, va_up_ne _ _ hr]; exact hfr r hr, _, ff4, fun x hx => by
        by_cases y : x = q
        · subst y; rw [pk_us, bf_r_new z, iv_s]
        · rw [pk_un y, bf_r_ne y]; exact hf x hx⟩ d_M_reach_16
set_option maxHeartbeats 4000000 in
set_option maxRecDepth 100000 in
theorem c_M_far (l : Launch) {G : zG} {ad : Nat → Nat} {en : Nat → va_E} {N : Nat} {T : List Nat} {mw : List wd_W} (hN : 111 ≤ N) (h : pM G ad en T mw) {w : Nat} {u : wd_W} (hw : mw[w]? = some u) {i j : Nat} (hi : i ≤ T.length) (hj : j ≤ u.1.length) : zMi l y_M_far b_M_far 8 .int 2 G ad en N [.ref (ad (104)), .int (nI (w)), .int (nI (i)), .int (nI (j))] (fun v en1 => v = nI (ed_d T u.1 i j) ∧ (∃ f : Nat → Int32, en1 109 = .inl (zI G, 99, .inl f)) ∧ ∀ r, r ≠ 109 → en1 r = en r) := by
  have hh := h
  obtain ⟨p1, p2, p26, p3, ⟨ft, p4, p5⟩, ⟨fl, fs, fc, p6, p7, p8, p9⟩, ⟨fr, p10⟩, fj, p11⟩ := hh
  have hwl := wd_lt_of hw
  obtain ⟨u8, u26, ut, us, uc, ul⟩ := p9 w u hw
  obtain ⟨ds, hds⟩ : ∃ z, z = ed_d T u.1 i j := ⟨_, rfl⟩
  have h18 : ds ≤ 18 := by rw [hds]; exact ed_18 hi hj p2 u8
  refine z_met (by decide) (Nat.le_of_ble_eq_true rfl) ?_
  intro p e s m below meth c ls hF hr hlocks hnam hZ hl
  have hF : CallFix p m c b_M_far 8 s ([.ref (ad (104)), .int (nI (w)), .int (nI (i)), .int (nI (j))] : List Value).toArray zz R_M := hF
  have hl : lv_has ls 8 [(0, .ref (ad (104))), (1, .int (nI (w))), (2, .int (nI (i))), (3, .int (nI (j)))] := hl
  have pass2 : ∀ (n q k : Nat) (rho : Nat → Nat) (en1 : Nat → va_E) (H : Heap) (locs : List Loc) (ls : Array Slot), q + n = 99 → k < 19 → fw G en en1 rho → bf_ok T u.1 ds (k + 2) rho → bf_2 T u.1 ds k q rho → (∀ (rho : Nat → Nat) (en1 : Nat → va_E) (H : Heap) (locs : List Loc) (ls : Array Slot), fw G en en1 rho → bf_ok T u.1 ds (k + 2) rho → bf_1 T u.1 ds (k + 1) 0 rho → lv_has ls 8 [(5, .int (nI (99))), (4, .int (nI (k))), (0, .ref (ad (104))), (1, .int (nI (w))), (2, .int (nI (i))), (3, .int (nI (j)))] → zH G ad en1 N s H locs → W p l e (zR 2) s m ([.ref (ad (104)), .int (nI (w)), .int (nI (i)), .int (nI (j))] : List Value).toArray below meth c H locs 0 0 (MQ below (zQi G ad N (fun v en1 => v = nI (ed_d T u.1 i j) ∧ (∃ f : Nat → Int32, en1 109 = .inl (zI G, 99, .inl f)) ∧ ∀ r, r ≠ 109 → en1 r = en r)) ([.ref (ad (104)), .int (nI (w)), .int (nI (i)), .int (nI (j))] : List Value).toArray s 0 0 (zA G)) (F0 m 297 ls [])) → lv_has ls 8 [(5, .int (nI (q))), (4, .int (nI (k))), (0, .ref (ad (104))), (1, .int (nI (w))), (2, .int (nI (i))), (3, .int (nI (j)))] → zH G ad en1 N s H locs → W p l e (zR 2) s m ([.ref (ad (104)), .int (nI (w)), .int (nI (i)), .int (nI (j))] : List Value).toArray below meth c H locs 0 0 (MQ below (zQi G ad N (fun v en1 => v = nI (ed_d T u.1 i j) ∧ (∃ f : Nat → Int32, en1 109 = .inl (zI G, 99, .inl f)) ∧ ∀ r, r ≠ 109 → en1 r = en r)) ([.ref (ad (104)), .int (nI (w)), .int (nI (i)), .int (nI (j))] : List Value).toArray s 0 0 (zA G)) (F0 m 171 ls []) := by
    intro n
    induction n with
    | zero =>
      intro q k rho en1 H locs ls hin hk hfw hok h2 K hl hZ
      have hq : q = 99 := by omega
      subst hq
      refine lv_iload hF.1 hF.2.1 d_M_far_171 (lv_at hl 0 rfl) ?_
      refine lv_bipush (v := (nI (99))) hF.1 hF.2.1 d_M_far_173 (by decide) ?_
      refine lv_icmp_ge (tgt := 297) hF.1 hF.2.1 d_M_far_175 (by decide) (fun _ => ?_) (fun h => absurd (nI_le (Nat.le_refl _) (by omega)) h)
      exact K rho en1 H locs ls hfw hok (bf_end h2) hl hZ
    | succ n ih =>
      intro q k rho en1 H locs ls hin hk hfw hok h2 K hl hZ
      have hb := bf_lt hok (by omega)
      have hqb := hb q (by omega)
      have hfr := hfw.1
      obtain ⟨f, e9, hf⟩ := hfw.2
      have q1 := (hfr 104 (by omega)).trans p1
      have q4 := (hfr 105 (by omega)).trans p4
      have q6 := (hfr 106 (by omega)).trans p6
      have q7 := (hfr 107 (by omega)).trans p7
      refine lv_iload hF.1 hF.2.1 d_M_far_171 (lv_at hl 0 rfl) ?_
      refine lv_bipush (v := (nI (99))) hF.1 hF.2.1 d_M_far_173 (by decide) ?_
      refine lv_icmp_ge (tgt := 297) hF.1 hF.2.1 d_M_far_175 (by decide) (fun h => absurd h (nI_ge (show q < 99 by omega) (by omega))) (fun _ => ?_)
      refine lv_aload_n hF.1 hF.2.1 d_M_far_178 rfl (lv_at hl 2 rfl) ?_
      refine gf_M_22 hF hZ (104) (by omega) q1 rfl d_M_far_179 ?_
      refine lv_iload hF.1 hF.2.1 d_M_far_182 (lv_at hl 0 rfl) ?_
      refine z_iald hF hZ (109) (by omega) e9 (q) (by omega) (by omega) d_M_far_184 ?_
      refine z_top (y := (iv (rho q))) (hf q (by omega)) ?_
      refine lv_iload hF.1 hF.2.1 d_M_far_185 (lv_at hl 1 rfl) ?_
      refine lv_icmp_eq (tgt := 193) hF.1 hF.2.1 d_M_far_187 (by decide) (fun z => ?_) (fun z => ?_)
      · have z : rho q = k + 1 := (iv_nI hqb (by omega)).mp z
        have hs := bf_2s u8 p2 hok h2 (by omega) z
        have hqq := hok q (by omega) (by omega)
        refine lv_iload hF.1 hF.2.1 d_M_far_193 (lv_at hl 0 rfl) ?_
        refine lv_bipush (v := (nI (9))) hF.1 hF.2.1 d_M_far_195 (by decide) ?_
        refine lv_idiv hF.1 hF.2.1 d_M_far_197 (by decide) ?_
        refine z_top (y := (nI (q / 9))) (pk_div (by omega) (by omega) (by omega)) ?_
        refine lv_aload_n hF.1 hF.2.1 d_M_far_198 rfl (lv_at hl 2 rfl) ?_
        refine gf_M_29 hF hZ (104) (by omega) q1 rfl d_M_far_199 ?_
        refine lv_icmp_ge (tgt := 209) hF.1 hF.2.1 d_M_far_202 (by decide) (fun xm => ?_) (fun xm => ?_)
        · have xm : ¬ q / 9 < T.length := by have := (nI_leI (by omega) (by omega)).mp xm; omega
          refine lv_iconst (v := (nI (0))) hF.1 hF.2.1 d_M_far_209 (by decide) ?_
          refine lv_istore hF.1 hF.2.1 d_M_far_210 hl (by decide) rfl (fun ls hl => ?_)
          have hl : lv_has ls 8 [(6, .int (nI (0))), (5, .int (nI (q))), (4, .int (nI (k))), (0, .ref (ad (104))), (1, .int (nI (w))), (2, .int (nI (i))), (3, .int (nI (j)))] := hl
          refine lv_iload hF.1 hF.2.1 d_M_far_212 (lv_at hl 1 rfl) ?_
          refine lv_bipush (v := (nI (9))) hF.1 hF.2.1 d_M_far_214 (by decide) ?_
          refine lv_irem hF.1 hF.2.1 d_M_far_216 (by decide) ?_
          refine z_top (y := (nI (q % 9))) (pk_rem (by omega) (by omega) (by omega)) ?_
          refine lv_aload_n hF.1 hF.2.1 d_M_far_217 rfl (lv_at hl 3 rfl) ?_
          refine gf_M_16 hF hZ (104) (by omega) q1 rfl d_M_far_218 ?_
          refine lv_iload_n hF.1 hF.2.1 d_M_far_221 rfl (lv_at hl 4 rfl) ?_
          refine z_iald hF hZ (107) (by omega) q7 (w) (by omega) (by omega) d_M_far_222 ?_
          refine z_top (y := (nI (u.1.length))) us ?_
          refine lv_icmp_ge (tgt := 230) hF.1 hF.2.1 d_M_far_223 (by decide) (fun yc => ?_) (fun yc => ?_)
          · have yc : ¬ q % 9 < u.1.length := by have := (nI_leI (by omega) (by omega)).mp yc; omega
            refine lv_iconst (v := (nI (0))) hF.1 hF.2.1 d_M_far_230 (by decide) ?_
            refine lv_istore hF.1 hF.2.1 d_M_far_231 hl (by decide) rfl (fun ls hl => ?_)
            have hl : lv_has ls 8 [(7, .int (nI (0))), (6, .int (nI (0))), (5, .int (nI (q))), (4, .int (nI (k))), (0, .ref (ad (104))), (1, .int (nI (w))), (2, .int (nI (i))), (3, .int (nI (j)))] := hl
            refine lv_iload hF.1 hF.2.1 d_M_far_233 (lv_at hl 1 rfl) ?_
            refine lv_if_eq (tgt := 256) hF.1 hF.2.1 d_M_far_235 (by decide) (fun _ => ?_) (fun h => absurd (by decide) h)
            refine lv_iload hF.1 hF.2.1 d_M_far_256 (lv_at hl 1 rfl) ?_
            refine lv_if_eq (tgt := 274) hF.1 hF.2.1 d_M_far_258 (by decide) (fun _ => ?_) (fun h => absurd (by decide) h)
            refine lv_iload hF.1 hF.2.1 d_M_far_274 (lv_at hl 0 rfl) ?_
            refine lv_if_eq (tgt := 291) hF.1 hF.2.1 d_M_far_276 (by decide) (fun _ => ?_) (fun h => absurd (by decide) h)
            refine lv_iinc (k := 2) (v := (nI (q + 1))) hF.1 hF.2.1 d_M_far_291 hl rfl (iinc_p (q)) (by decide) rfl (fun ls hl => ?_)
            have hl : lv_has ls 8 [(5, .int (nI (q + 1))), (7, .int (nI (0))), (6, .int (nI (0))), (4, .int (nI (k))), (0, .ref (ad (104))), (1, .int (nI (w))), (2, .int (nI (i))), (3, .int (nI (j)))] := hl
            refine lv_goto (tgt := 171) hF.1 hF.2.1 d_M_far_294 (by decide) ?_
            rw [show bf_s T u.1 rho q k = rho by unfold bf_s; dsimp only; rw [if_neg yc, if_neg xm, if_neg (show ¬ (q / 9 < T.length ∧ q % 9 < u.1.length) from fun z => xm z.1)]] at hs
            exact ih (q + 1) k _ _ H locs ls (by omega) hk hfw hs.1 hs.2 K (lv_sub hl [0, 3, 4, 5, 6, 7] rfl) hZ
          · have yc : q % 9 < u.1.length := Nat.lt_of_not_le (fun z => yc (nI_le z (by omega)))
            refine lv_iconst (v := (nI (1))) hF.1 hF.2.1 d_M_far_226 (by decide) ?_
            refine lv_goto (tgt := 231) hF.1 hF.2.1 d_M_far_227 (by decide) ?_
            refine lv_istore hF.1 hF.2.1 d_M_far_231 hl (by decide) rfl (fun ls hl => ?_)
            have hl : lv_has ls 8 [(7, .int (nI (1))), (6, .int (nI (0))), (5, .int (nI (q))), (4, .int (nI (k))), (0, .ref (ad (104))), (1, .int (nI (w))), (2, .int (nI (i))), (3, .int (nI (j)))] := hl
            refine lv_iload hF.1 hF.2.1 d_M_far_233 (lv_at hl 1 rfl) ?_
            refine lv_if_eq (tgt := 256) hF.1 hF.2.1 d_M_far_235 (by decide) (fun _ => ?_) (fun h => absurd (by decide) h)
            refine lv_iload hF.1 hF.2.1 d_M_far_256 (lv_at hl 1 rfl) ?_
            refine lv_if_eq (tgt := 274) hF.1 hF.2.1 d_M_far_258 (by decide) (fun _ => ?_) (fun h => absurd (by decide) h)
            refine lv_iload hF.1 hF.2.1 d_M_far_274 (lv_at hl 0 rfl) ?_
            refine lv_if_eq (tgt := 291) hF.1 hF.2.1 d_M_far_276 (by decide) (fun h => absurd h (by decide)) (fun _ => ?_)
            refine lv_aload_n hF.1 hF.2.1 d_M_far_279 rfl (lv_at hl 4 rfl) ?_
            refine lv_iload hF.1 hF.2.1 d_M_far_280 (lv_at hl 2 rfl) ?_
            refine lv_iconst (v := (nI (1))) hF.1 hF.2.1 d_M_far_282 (by decide) ?_
            refine lv_iadd hF.1 hF.2.1 d_M_far_283 ?_
            refine z_top (nI_add (q) (1)) ?_
            refine lv_iload hF.1 hF.2.1 d_M_far_284 (lv_at hl 3 rfl) ?_
            refine lv_iconst (v := (nI (1))) hF.1 hF.2.1 d_M_far_286 (by decide) ?_
            refine lv_iadd hF.1 hF.2.1 d_M_far_287 ?_
            refine z_top (nI_add (k) (1)) ?_
            refine z_callv hZ (z_run cw_M_60 hF hZ (104) (c_M_reach l hN h hfw hb (q := q + 1) (k := k + 1) (by omega) (by omega)) (by decide) (by omega) q1 rfl rfl hl.1 rfl (Nat.le_of_ble_eq_true rfl) d_M_far_288) (fun ek2 H locs hfwrh1 hZ => ?_)
            have q1rh1 := (hfwrh1.1 104 (by omega)).trans p1
            have hbrh1 := bf_r_lt (p := q + 1) (c := k + 1) hb (by omega)
            refine lv_iinc (k := 2) (v := (nI (q + 1))) hF.1 hF.2.1 d_M_far_291 hl rfl (iinc_p (q)) (by decide) rfl (fun ls hl => ?_)
            have hl : lv_has ls 8 [(5, .int (nI (q + 1))), (7, .int (nI (1))), (6, .int (nI (0))), (4, .int (nI (k))), (0, .ref (ad (104))), (1, .int (nI (w))), (2, .int (nI (i))), (3, .int (nI (j)))] := hl
            refine lv_goto (tgt := 171) hF.1 hF.2.1 d_M_far_294 (by decide) ?_
            rw [show bf_s T u.1 rho q k = (bf_r rho (q + 1) (k + 1)) by unfold bf_s; dsimp only; rw [if_pos yc, if_neg xm, if_neg (show ¬ (q / 9 < T.length ∧ q % 9 < u.1.length) from fun z => xm z.1)]] at hs
            exact ih (q + 1) k _ _ H locs ls (by omega) hk hfwrh1 hs.1 hs.2 K (lv_sub hl [0, 3, 4, 5, 6, 7] rfl) hZ
        · have xm : q / 9 < T.length := Nat.lt_of_not_le (fun z => xm (nI_le z (by omega)))
          refine lv_iconst (v := (nI (1))) hF.1 hF.2.1 d_M_far_205 (by decide) ?_
          refine lv_goto (tgt := 210) hF.1 hF.2.1 d_M_far_206 (by decide) ?_
          refine lv_istore hF.1 hF.2.1 d_M_far_210 hl (by decide) rfl (fun ls hl => ?_)
          have hl : lv_has ls 8 [(6, .int (nI (1))), (5, .int (nI (q))), (4, .int (nI (k))), (0, .ref (ad (104))), (1, .int (nI (w))), (2, .int (nI (i))), (3, .int (nI (j)))] := hl
          refine lv_iload hF.1 hF.2.1 d_M_far_212 (lv_at hl 1 rfl) ?_
          refine lv_bipush (v := (nI (9))) hF.1 hF.2.1 d_M_far_214 (by decide) ?_
          refine lv_irem hF.1 hF.2.1 d_M_far_216 (by decide) ?_
          refine z_top (y := (nI (q % 9))) (pk_rem (by omega) (by omega) (by omega)) ?_
          refine lv_aload_n hF.1 hF.2.1 d_M_far_217 rfl (lv_at hl 3 rfl) ?_
          refine gf_M_16 hF hZ (104) (by omega) q1 rfl d_M_far_218 ?_
          refine lv_iload_n hF.1 hF.2.1 d_M_far_221 rfl (lv_at hl 4 rfl) ?_
          refine z_iald hF hZ (107) (by omega) q7 (w) (by omega) (by omega) d_M_far_222 ?_
          refine z_top (y := (nI (u.1.length))) us ?_
          refine lv_icmp_ge (tgt := 230) hF.1 hF.2.1 d_M_far_223 (by decide) (fun yc => ?_) (fun yc => ?_)
          · have yc : ¬ q % 9 < u.1.length := by have := (nI_leI (by omega) (by omega)).mp yc; omega
            refine lv_iconst (v := (nI (0))) hF.1 hF.2.1 d_M_far_230 (by decide) ?_
            refine lv_istore hF.1 hF.2.1 d_M_far_231 hl (by decide) rfl (fun ls hl => ?_)
            have hl : lv_has ls 8 [(7, .int (nI (0))), (6, .int (nI (1))), (5, .int (nI (q))), (4, .int (nI (k))), (0, .ref (ad (104))), (1, .int (nI (w))), (2, .int (nI (i))), (3, .int (nI (j)))] := hl
            refine lv_iload hF.1 hF.2.1 d_M_far_233 (lv_at hl 1 rfl) ?_
            refine lv_if_eq (tgt := 256) hF.1 hF.2.1 d_M_far_235 (by decide) (fun h => absurd h (by decide)) (fun _ => ?_)
            refine lv_iload hF.1 hF.2.1 d_M_far_238 (lv_at hl 0 rfl) ?_
            refine lv_if_eq (tgt := 256) hF.1 hF.2.1 d_M_far_240 (by decide) (fun _ => ?_) (fun h => absurd (by decide) h)
            refine lv_iload hF.1 hF.2.1 d_M_far_256 (lv_at hl 1 rfl) ?_
            refine lv_if_eq (tgt := 274) hF.1 hF.2.1 d_M_far_258 (by decide) (fun h => absurd h (by decide)) (fun _ => ?_)
            refine lv_aload_n hF.1 hF.2.1 d_M_far_261 rfl (lv_at hl 4 rfl) ?_
            refine lv_iload hF.1 hF.2.1 d_M_far_262 (lv_at hl 2 rfl) ?_
            refine lv_bipush (v := (nI (9))) hF.1 hF.2.1 d_M_far_264 (by decide) ?_
            refine lv_iadd hF.1 hF.2.1 d_M_far_266 ?_
            refine z_top (nI_add (q) (9)) ?_
            refine lv_iload hF.1 hF.2.1 d_M_far_267 (lv_at hl 3 rfl) ?_
            refine lv_iconst (v := (nI (1))) hF.1 hF.2.1 d_M_far_269 (by decide) ?_
            refine lv_iadd hF.1 hF.2.1 d_M_far_270 ?_
            refine z_top (nI_add (k) (1)) ?_
            refine z_callv hZ (z_run cw_M_60 hF hZ (104) (c_M_reach l hN h hfw hb (q := q + 9) (k := k + 1) (by omega) (by omega)) (by decide) (by omega) q1 rfl rfl hl.1 rfl (Nat.le_of_ble_eq_true rfl) d_M_far_271) (fun ek4 H locs hfwrh3 hZ => ?_)
            have q1rh3 := (hfwrh3.1 104 (by omega)).trans p1
            have hbrh3 := bf_r_lt (p := q + 9) (c := k + 1) hb (by omega)
            refine lv_iload hF.1 hF.2.1 d_M_far_274 (lv_at hl 0 rfl) ?_
            refine lv_if_eq (tgt := 291) hF.1 hF.2.1 d_M_far_276 (by decide) (fun _ => ?_) (fun h => absurd (by decide) h)
            refine lv_iinc (k := 2) (v := (nI (q + 1))) hF.1 hF.2.1 d_M_far_291 hl rfl (iinc_p (q)) (by decide) rfl (fun ls hl => ?_)
            have hl : lv_has ls 8 [(5, .int (nI (q + 1))), (7, .int (nI (0))), (6, .int (nI (1))), (4, .int (nI (k))), (0, .ref (ad (104))), (1, .int (nI (w))), (2, .int (nI (i))), (3, .int (nI (j)))] := hl
            refine lv_goto (tgt := 171) hF.1 hF.2.1 d_M_far_294 (by decide) ?_
            rw [show bf_s T u.1 rho q k = (bf_r rho (q + 9) (k + 1)) by unfold bf_s; dsimp only; rw [if_neg yc, if_pos xm, if_neg (show ¬ (q / 9 < T.length ∧ q % 9 < u.1.length) from fun z => yc z.2)]] at hs
            exact ih (q + 1) k _ _ H locs ls (by omega) hk hfwrh3 hs.1 hs.2 K (lv_sub hl [0, 3, 4, 5, 6, 7] rfl) hZ
          · have yc : q % 9 < u.1.length := Nat.lt_of_not_le (fun z => yc (nI_le z (by omega)))
            refine lv_iconst (v := (nI (1))) hF.1 hF.2.1 d_M_far_226 (by decide) ?_
            refine lv_goto (tgt := 231) hF.1 hF.2.1 d_M_far_227 (by decide) ?_
            refine lv_istore hF.1 hF.2.1 d_M_far_231 hl (by decide) rfl (fun ls hl => ?_)
            have hl : lv_has ls 8 [(7, .int (nI (1))), (6, .int (nI (1))), (5, .int (nI (q))), (4, .int (nI (k))), (0, .ref (ad (104))), (1, .int (nI (w))), (2, .int (nI (i))), (3, .int (nI (j)))] := hl
            refine lv_iload hF.1 hF.2.1 d_M_far_233 (lv_at hl 1 rfl) ?_
            refine lv_if_eq (tgt := 256) hF.1 hF.2.1 d_M_far_235 (by decide) (fun h => absurd h (by decide)) (fun _ => ?_)
            refine lv_iload hF.1 hF.2.1 d_M_far_238 (lv_at hl 0 rfl) ?_
            refine lv_if_eq (tgt := 256) hF.1 hF.2.1 d_M_far_240 (by decide) (fun h => absurd h (by decide)) (fun _ => ?_)
            refine lv_aload_n hF.1 hF.2.1 d_M_far_243 rfl (lv_at hl 4 rfl) ?_
            refine lv_iload hF.1 hF.2.1 d_M_far_244 (lv_at hl 2 rfl) ?_
            refine lv_bipush (v := (nI (10))) hF.1 hF.2.1 d_M_far_246 (by decide) ?_
            refine lv_iadd hF.1 hF.2.1 d_M_far_248 ?_
            refine z_top (nI_add (q) (10)) ?_
            refine lv_iload hF.1 hF.2.1 d_M_far_249 (lv_at hl 3 rfl) ?_
            refine lv_iconst (v := (nI (1))) hF.1 hF.2.1 d_M_far_251 (by decide) ?_
            refine lv_iadd hF.1 hF.2.1 d_M_far_252 ?_
            refine z_top (nI_add (k) (1)) ?_
            refine z_callv hZ (z_run cw_M_60 hF hZ (104) (c_M_reach l hN h hfw hb (q := q + 10) (k := k + 1) (by omega) (by omega)) (by decide) (by omega) q1 rfl rfl hl.1 rfl (Nat.le_of_ble_eq_true rfl) d_M_far_253) (fun ek6 H locs hfwrh5 hZ => ?_)
            have q1rh5 := (hfwrh5.1 104 (by omega)).trans p1
            have hbrh5 := bf_r_lt (p := q + 10) (c := k + 1) hb (by omega)
            refine lv_iload hF.1 hF.2.1 d_M_far_256 (lv_at hl 1 rfl) ?_
            refine lv_if_eq (tgt := 274) hF.1 hF.2.1 d_M_far_258 (by decide) (fun h => absurd h (by decide)) (fun _ => ?_)
            refine lv_aload_n hF.1 hF.2.1 d_M_far_261 rfl (lv_at hl 4 rfl) ?_
            refine lv_iload hF.1 hF.2.1 d_M_far_262 (lv_at hl 2 rfl) ?_
            refine lv_bipush (v := (nI (9))) hF.1 hF.2.1 d_M_far_264 (by decide) ?_
            refine lv_iadd hF.1 hF.2.1 d_M_far_266 ?_
            refine z_top (nI_add (q) (9)) ?_
            refine lv_iload hF.1 hF.2.1 d_M_far_267 (lv_at hl 3 rfl) ?_
            refine lv_iconst (v := (nI (1))) hF.1 hF.2.1 d_M_far_269 (by decide) ?_
            refine lv_iadd hF.1 hF.2.1 d_M_far_270 ?_
            refine z_top (nI_add (k) (1)) ?_
            refine z_callv hZ (z_run cw_M_60 hF hZ (104) (c_M_reach l hN h hfwrh5 hbrh5 (q := q + 9) (k := k + 1) (by omega) (by omega)) (by decide) (by omega) q1rh5 rfl rfl hl.1 rfl (Nat.le_of_ble_eq_true rfl) d_M_far_271) (fun ek8 H locs hfwrh7 hZ => ?_)
            have q1rh7 := (hfwrh7.1 104 (by omega)).trans p1
            have hbrh7 := bf_r_lt (p := q + 9) (c := k + 1) hbrh5 (by omega)
            refine lv_iload hF.1 hF.2.1 d_M_far_274 (lv_at hl 0 rfl) ?_
            refine lv_if_eq (tgt := 291) hF.1 hF.2.1 d_M_far_276 (by decide) (fun h => absurd h (by decide)) (fun _ => ?_)
            refine lv_aload_n hF.1 hF.2.1 d_M_far_279 rfl (lv_at hl 4 rfl) ?_
            refine lv_iload hF.1 hF.2.1 d_M_far_280 (lv_at hl 2 rfl) ?_
            refine lv_iconst (v := (nI (1))) hF.1 hF.2.1 d_M_far_282 (by decide) ?_
            refine lv_iadd hF.1 hF.2.1 d_M_far_283 ?_
            refine z_top (nI_add (q) (1)) ?_
            refine lv_iload hF.1 hF.2.1 d_M_far_284 (lv_at hl 3 rfl) ?_
            refine lv_iconst (v := (nI (1))) hF.1 hF.2.1 d_M_far_286 (by decide) ?_
            refine lv_iadd hF.1 hF.2.1 d_M_far_287 ?_
            refine z_top (nI_add (k) (1)) ?_
            refine z_callv hZ (z_run cw_M_60 hF hZ (104) (c_M_reach l hN h hfwrh7 hbrh7 (q := q + 1) (k := k + 1) (by omega) (by omega)) (by decide) (by omega) q1rh7 rfl rfl hl.1 rfl (Nat.le_of_ble_eq_true rfl) d_M_far_288) (fun ek10 H locs hfwrh9 hZ => ?_)
            have q1rh9 := (hfwrh9.1 104 (by omega)).trans p1
            have hbrh9 := bf_r_lt (p := q + 1) (c := k + 1) hbrh7 (by omega)
            refine lv_iinc (k := 2) (v := (nI (q + 1))) hF.1 hF.2.1 d_M_far_291 hl rfl (iinc_p (q)) (by decide) rfl (fun ls hl => ?_)
            have hl : lv_has ls 8 [(5, .int (nI (q + 1))), (7, .int (nI (1))), (6, .int (nI (1))), (4, .int (nI (k))), (0, .ref (ad (104))), (1, .int (nI (w))), (2, .int (nI (i))), (3, .int (nI (j)))] := hl
            refine lv_goto (tgt := 171) hF.1 hF.2.1 d_M_far_294 (by decide) ?_
            rw [show bf_s T u.1 rho q k = (bf_r (bf_r (bf_r rho (q + 10) (k + 1)) (q + 9) (k + 1)) (q + 1) (k + 1)) by unfold bf_s; dsimp only; rw [if_pos yc, if_pos xm, if_pos (⟨xm, yc⟩ : q / 9 < T.length ∧ q % 9 < u.1.length)]] at hs
            exact ih (q + 1) k _ _ H locs ls (by omega) hk hfwrh9 hs.1 hs.2 K (lv_sub hl [0, 3, 4, 5, 6, 7] rfl) hZ
      · have z : rho q ≠ k + 1 := fun y => z ((iv_nI hqb (by omega)).mpr y)
        refine lv_goto (tgt := 291) hF.1 hF.2.1 d_M_far_190 (by decide) ?_
        refine lv_iinc (k := 0) (v := (nI (q + 1))) hF.1 hF.2.1 d_M_far_291 hl rfl (iinc_p (q)) (by decide) rfl (fun ls hl => ?_)
        have hl : lv_has ls 8 [(5, .int (nI (q + 1))), (4, .int (nI (k))), (0, .ref (ad (104))), (1, .int (nI (w))), (2, .int (nI (i))), (3, .int (nI (j)))] := hl
        refine lv_goto (tgt := 171) hF.1 hF.2.1 d_M_far_294 (by decide) ?_
        exact ih (q + 1) k rho en1 H locs ls (by omega) hk hfw hok (bf_2n h2 z) K hl hZ
  have pass1 : ∀ (n q k : Nat) (rho : Nat → Nat) (en1 : Nat → va_E) (H : Heap) (locs : List Loc) (ls : Array Slot), q + n = 99 → k < 19 → fw G en en1 rho → bf_ok T u.1 ds (k + 1) rho → bf_1 T u.1 ds k q rho → (∀ (rho : Nat → Nat) (en1 : Nat → va_E) (H : Heap) (locs : List Loc) (ls : Array Slot), fw G en en1 rho → bf_ok T u.1 ds (k + 1) rho → bf_1 T u.1 ds k 99 rho → lv_has ls 8 [(5, .int (nI (99))), (4, .int (nI (k))), (0, .ref (ad (104))), (1, .int (nI (w))), (2, .int (nI (i))), (3, .int (nI (j)))] → zH G ad en1 N s H locs → W p l e (zR 2) s m ([.ref (ad (104)), .int (nI (w)), .int (nI (i)), .int (nI (j))] : List Value).toArray below meth c H locs 0 0 (MQ below (zQi G ad N (fun v en1 => v = nI (ed_d T u.1 i j) ∧ (∃ f : Nat → Int32, en1 109 = .inl (zI G, 99, .inl f)) ∧ ∀ r, r ≠ 109 → en1 r = en r)) ([.ref (ad (104)), .int (nI (w)), .int (nI (i)), .int (nI (j))] : List Value).toArray s 0 0 (zA G)) (F0 m 141 ls [])) → lv_has ls 8 [(5, .int (nI (q))), (4, .int (nI (k))), (0, .ref (ad (104))), (1, .int (nI (w))), (2, .int (nI (i))), (3, .int (nI (j)))] → zH G ad en1 N s H locs → W p l e (zR 2) s m ([.ref (ad (104)), .int (nI (w)), .int (nI (i)), .int (nI (j))] : List Value).toArray below meth c H locs 0 0 (MQ below (zQi G ad N (fun v en1 => v = nI (ed_d T u.1 i j) ∧ (∃ f : Nat → Int32, en1 109 = .inl (zI G, 99, .inl f)) ∧ ∀ r, r ≠ 109 → en1 r = en r)) ([.ref (ad (104)), .int (nI (w)), .int (nI (i)), .int (nI (j))] : List Value).toArray s 0 0 (zA G)) (F0 m 49 ls []) := by
    intro n
    induction n with
    | zero =>
      intro q k rho en1 H locs ls hin hk hfw hok h2 K hl hZ
      have hq : q = 99 := by omega
      subst hq
      refine lv_iload hF.1 hF.2.1 d_M_far_49 (lv_at hl 0 rfl) ?_
      refine lv_bipush (v := (nI (99))) hF.1 hF.2.1 d_M_far_51 (by decide) ?_
      refine lv_icmp_ge (tgt := 141) hF.1 hF.2.1 d_M_far_53 (by decide) (fun _ => ?_) (fun h => absurd (nI_le (Nat.le_refl _) (by omega)) h)
      exact K rho en1 H locs ls hfw hok h2 hl hZ
    | succ n ih =>
      intro q k rho en1 H locs ls hin hk hfw hok h2 K hl hZ
      have hb := bf_lt hok (by omega)
      have hqb := hb q (by omega)
      have hfr := hfw.1
      obtain ⟨f, e9, hf⟩ := hfw.2
      have q1 := (hfr 104 (by omega)).trans p1
      have q4 := (hfr 105 (by omega)).trans p4
      have q6 := (hfr 106 (by omega)).trans p6
      have q7 := (hfr 107 (by omega)).trans p7
      refine lv_iload hF.1 hF.2.1 d_M_far_49 (lv_at hl 0 rfl) ?_
      refine lv_bipush (v := (nI (99))) hF.1 hF.2.1 d_M_far_51 (by decide) ?_
      refine lv_icmp_ge (tgt := 141) hF.1 hF.2.1 d_M_far_53 (by decide) (fun h => absurd h (nI_ge (show q < 99 by omega) (by omega))) (fun _ => ?_)
      refine lv_iload hF.1 hF.2.1 d_M_far_56 (lv_at hl 0 rfl) ?_
      refine lv_bipush (v := (nI (9))) hF.1 hF.2.1 d_M_far_58 (by decide) ?_
      refine lv_idiv hF.1 hF.2.1 d_M_far_60 (by decide) ?_
      refine z_top (y := (nI (q / 9))) (pk_div (by omega) (by omega) (by omega)) ?_
      refine lv_istore hF.1 hF.2.1 d_M_far_61 hl (by decide) rfl (fun ls hl => ?_)
      have hl : lv_has ls 8 [(6, .int (nI (q / 9))), (5, .int (nI (q))), (4, .int (nI (k))), (0, .ref (ad (104))), (1, .int (nI (w))), (2, .int (nI (i))), (3, .int (nI (j)))] := hl
      refine lv_iload hF.1 hF.2.1 d_M_far_63 (lv_at hl 1 rfl) ?_
      refine lv_bipush (v := (nI (9))) hF.1 hF.2.1 d_M_far_65 (by decide) ?_
      refine lv_irem hF.1 hF.2.1 d_M_far_67 (by decide) ?_
      refine z_top (y := (nI (q % 9))) (pk_rem (by omega) (by omega) (by omega)) ?_
      refine lv_istore hF.1 hF.2.1 d_M_far_68 hl (by decide) rfl (fun ls hl => ?_)
      have hl : lv_has ls 8 [(7, .int (nI (q % 9))), (6, .int (nI (q / 9))), (5, .int (nI (q))), (4, .int (nI (k))), (0, .ref (ad (104))), (1, .int (nI (w))), (2, .int (nI (i))), (3, .int (nI (j)))] := hl
      refine lv_aload_n hF.1 hF.2.1 d_M_far_70 rfl (lv_at hl 4 rfl) ?_
      refine gf_M_22 hF hZ (104) (by omega) q1 rfl d_M_far_71 ?_
      refine lv_iload hF.1 hF.2.1 d_M_far_74 (lv_at hl 2 rfl) ?_
      refine z_iald hF hZ (109) (by omega) e9 (q) (by omega) (by omega) d_M_far_76 ?_
      refine z_top (y := (iv (rho q))) (hf q (by omega)) ?_
      refine lv_iload hF.1 hF.2.1 d_M_far_77 (lv_at hl 3 rfl) ?_
      refine lv_icmp_ne (tgt := 135) hF.1 hF.2.1 d_M_far_79 (by decide) (fun z => ?_) (fun z => ?_)
      · have z1 : rho q ≠ k + 1 := fun y => z ((iv_nI hqb (by omega)).mpr y)
        refine lv_iinc (k := 2) (v := (nI (q + 1))) hF.1 hF.2.1 d_M_far_135 hl rfl (iinc_p (q)) (by decide) rfl (fun ls hl => ?_)
        have hl : lv_has ls 8 [(5, .int (nI (q + 1))), (7, .int (nI (q % 9))), (6, .int (nI (q / 9))), (4, .int (nI (k))), (0, .ref (ad (104))), (1, .int (nI (w))), (2, .int (nI (i))), (3, .int (nI (j)))] := hl
        refine lv_goto (tgt := 49) hF.1 hF.2.1 d_M_far_138 (by decide) ?_
        exact ih (q + 1) k rho en1 H locs ls (by omega) hk hfw hok (bf_1n h2 (fun z => z1 z.1)) K (lv_sub hl [0, 3, 4, 5, 6, 7] rfl) hZ
      · have z : rho q = k + 1 := (iv_nI hqb (by omega)).mp z
        refine lv_iload hF.1 hF.2.1 d_M_far_82 (lv_at hl 1 rfl) ?_
        refine lv_aload_n hF.1 hF.2.1 d_M_far_84 rfl (lv_at hl 4 rfl) ?_
        refine gf_M_29 hF hZ (104) (by omega) q1 rfl d_M_far_85 ?_
        refine lv_icmp_ge (tgt := 135) hF.1 hF.2.1 d_M_far_88 (by decide) (fun xm => ?_) (fun xm => ?_)
        · have xm := (nI_leI (by omega) (by omega)).mp xm
          refine lv_iinc (k := 2) (v := (nI (q + 1))) hF.1 hF.2.1 d_M_far_135 hl rfl (iinc_p (q)) (by decide) rfl (fun ls hl => ?_)
          have hl : lv_has ls 8 [(5, .int (nI (q + 1))), (7, .int (nI (q % 9))), (6, .int (nI (q / 9))), (4, .int (nI (k))), (0, .ref (ad (104))), (1, .int (nI (w))), (2, .int (nI (i))), (3, .int (nI (j)))] := hl
          refine lv_goto (tgt := 49) hF.1 hF.2.1 d_M_far_138 (by decide) ?_
          exact ih (q + 1) k rho en1 H locs ls (by omega) hk hfw hok (bf_1n h2 (fun z => absurd z.2.1 (by omega))) K (lv_sub hl [0, 3, 4, 5, 6, 7] rfl) hZ
        · have xm : q / 9 < T.length := Nat.lt_of_not_le (fun z => xm (nI_le z (by omega)))
          refine lv_iload hF.1 hF.2.1 d_M_far_91 (lv_at hl 0 rfl) ?_
          refine lv_aload_n hF.1 hF.2.1 d_M_far_93 rfl (lv_at hl 4 rfl) ?_
          refine gf_M_16 hF hZ (104) (by omega) q1 rfl d_M_far_94 ?_
          refine lv_iload_n hF.1 hF.2.1 d_M_far_97 rfl (lv_at hl 5 rfl) ?_
          refine z_iald hF hZ (107) (by omega) q7 (w) (by omega) (by omega) d_M_far_98 ?_
          refine z_top (y := (nI (u.1.length))) us ?_
          refine lv_icmp_ge (tgt := 135) hF.1 hF.2.1 d_M_far_99 (by decide) (fun yc => ?_) (fun yc => ?_)
          · have yc := (nI_leI (by omega) (by omega)).mp yc
            refine lv_iinc (k := 2) (v := (nI (q + 1))) hF.1 hF.2.1 d_M_far_135 hl rfl (iinc_p (q)) (by decide) rfl (fun ls hl => ?_)
            have hl : lv_has ls 8 [(5, .int (nI (q + 1))), (7, .int (nI (q % 9))), (6, .int (nI (q / 9))), (4, .int (nI (k))), (0, .ref (ad (104))), (1, .int (nI (w))), (2, .int (nI (i))), (3, .int (nI (j)))] := hl
            refine lv_goto (tgt := 49) hF.1 hF.2.1 d_M_far_138 (by decide) ?_
            exact ih (q + 1) k rho en1 H locs ls (by omega) hk hfw hok (bf_1n h2 (fun z => absurd z.2.2.1 (by omega))) K (lv_sub hl [0, 3, 4, 5, 6, 7] rfl) hZ
          · have yc : q % 9 < u.1.length := Nat.lt_of_not_le (fun z => yc (nI_le z (by omega)))
            have z1 := p26 (q / 9)
            have z2 := u26 (q % 9)
            refine lv_aload_n hF.1 hF.2.1 d_M_far_102 rfl (lv_at hl 4 rfl) ?_
            refine gf_M_7 hF hZ (104) (by omega) q1 rfl d_M_far_103 ?_
            refine lv_iload hF.1 hF.2.1 d_M_far_106 (lv_at hl 1 rfl) ?_
            refine z_iald hF hZ (105) (by omega) q4 (q / 9) (by omega) (by omega) d_M_far_108 ?_
            refine z_top (y := (nI (T.getD (q / 9) 0))) (p5 _ xm) ?_
            refine lv_aload_n hF.1 hF.2.1 d_M_far_109 rfl (lv_at hl 4 rfl) ?_
            refine gf_M_13 hF hZ (104) (by omega) q1 rfl d_M_far_110 ?_
            refine lv_bipush (v := (nI (8))) hF.1 hF.2.1 d_M_far_113 (by decide) ?_
            refine lv_iload_n hF.1 hF.2.1 d_M_far_115 rfl (lv_at hl 5 rfl) ?_
            refine lv_imul hF.1 hF.2.1 d_M_far_116 ?_
            refine z_top (pk_mul (8) (w)) ?_
            refine lv_iload hF.1 hF.2.1 d_M_far_117 (lv_at hl 0 rfl) ?_
            refine lv_iadd hF.1 hF.2.1 d_M_far_119 ?_
            refine z_top (nI_add ((8) * (w)) (q % 9)) ?_
            refine z_iald hF hZ (106) (by omega) q6 ((8) * (w) + q % 9) (by omega) (by omega) d_M_far_120 ?_
            refine z_top (y := (nI (u.1.getD (q % 9) 0))) (ul _ yc) ?_
            refine lv_icmp_ne (tgt := 135) hF.1 hF.2.1 d_M_far_121 (by decide) (fun ee => ?_) (fun ee => ?_)
            · have ee : ¬ T.getD (q / 9) 0 = u.1.getD (q % 9) 0 := fun y => ee (by rw [y])
              refine lv_iinc (k := 2) (v := (nI (q + 1))) hF.1 hF.2.1 d_M_far_135 hl rfl (iinc_p (q)) (by decide) rfl (fun ls hl => ?_)
              have hl : lv_has ls 8 [(5, .int (nI (q + 1))), (7, .int (nI (q % 9))), (6, .int (nI (q / 9))), (4, .int (nI (k))), (0, .ref (ad (104))), (1, .int (nI (w))), (2, .int (nI (i))), (3, .int (nI (j)))] := hl
              refine lv_goto (tgt := 49) hF.1 hF.2.1 d_M_far_138 (by decide) ?_
              exact ih (q + 1) k rho en1 H locs ls (by omega) hk hfw hok (bf_1n h2 (fun z => ee z.2.2.2)) K (lv_sub hl [0, 3, 4, 5, 6, 7] rfl) hZ
            · have ee := (nI_eq (by omega) (by omega)).mp ee
              have hs := bf_1s u8 p2 hok h2 (by omega) z xm yc ee
              refine lv_aload_n hF.1 hF.2.1 d_M_far_124 rfl (lv_at hl 4 rfl) ?_
              refine lv_iload hF.1 hF.2.1 d_M_far_125 (lv_at hl 2 rfl) ?_
              refine lv_bipush (v := (nI (10))) hF.1 hF.2.1 d_M_far_127 (by decide) ?_
              refine lv_iadd hF.1 hF.2.1 d_M_far_129 ?_
              refine z_top (nI_add (q) (10)) ?_
              refine lv_iload hF.1 hF.2.1 d_M_far_130 (lv_at hl 3 rfl) ?_
              refine z_callv hZ (z_run cw_M_60 hF hZ (104) (c_M_reach l hN h hfw hb (q := q + 10) (k := k) (by omega) (by omega)) (by decide) (by omega) q1 rfl rfl hl.1 rfl (Nat.le_of_ble_eq_true rfl) d_M_far_132) (fun en2 H locs hfw2 hZ => ?_)
              refine lv_iinc (k := 2) (v := (nI (q + 1))) hF.1 hF.2.1 d_M_far_135 hl rfl (iinc_p (q)) (by decide) rfl (fun ls hl => ?_)
              have hl : lv_has ls 8 [(5, .int (nI (q + 1))), (7, .int (nI (q % 9))), (6, .int (nI (q / 9))), (4, .int (nI (k))), (0, .ref (ad (104))), (1, .int (nI (w))), (2, .int (nI (i))), (3, .int (nI (j)))] := hl
              refine lv_goto (tgt := 49) hF.1 hF.2.1 d_M_far_138 (by decide) ?_
              exact ih (q + 1) k _ en2 H locs ls (by omega) hk hfw2 hs.1 hs.2 K (lv_sub hl [0, 3, 4, 5, 6, 7] rfl) hZ
  have main : ∀ (n k : Nat) (rho : Nat → Nat) (en1 : Nat → va_E) (H : Heap) (locs : List Loc) (ls : Array Slot), k + n = 19 → fw G en en1 rho → bf_ok T u.1 ds (k + 1) rho → bf_1 T u.1 ds k 0 rho → lv_has ls 8 [(4, .int (nI (k))), (0, .ref (ad (104))), (1, .int (nI (w))), (2, .int (nI (i))), (3, .int (nI (j)))] → zH G ad en1 N s H locs → W p l e (zR 2) s m ([.ref (ad (104)), .int (nI (w)), .int (nI (i)), .int (nI (j))] : List Value).toArray below meth c H locs 0 0 (MQ below (zQi G ad N (fun v en1 => v = nI (ed_d T u.1 i j) ∧ (∃ f : Nat → Int32, en1 109 = .inl (zI G, 99, .inl f)) ∧ ∀ r, r ≠ 109 → en1 r = en r)) ([.ref (ad (104)), .int (nI (w)), .int (nI (i)), .int (nI (j))] : List Value).toArray s 0 0 (zA G)) (F0 m 39 ls []) := by
    intro n
    induction n with
    | zero =>
      intro k rho en1 H locs ls hin hfw hok h1 hl hZ
      obtain ⟨x, hx, -⟩ := h1
      have := hx.2.2
      omega
    | succ n ih =>
      intro k rho en1 H locs ls hin hfw hok h1 hl hZ
      refine lv_iload hF.1 hF.2.1 d_M_far_39 (lv_at hl 0 rfl) ?_
      refine lv_bipush (v := (nI (18))) hF.1 hF.2.1 d_M_far_41 (by decide) ?_
      refine lv_icmp_gt (tgt := 303) hF.1 hF.2.1 d_M_far_43 (by decide) (fun h => absurd h (nI_nlt (show k ≤ 18 by omega) (by omega))) (fun _ => ?_)
      refine lv_iconst (v := (nI (0))) hF.1 hF.2.1 d_M_far_46 (by decide) ?_
      refine lv_istore hF.1 hF.2.1 d_M_far_47 hl (by decide) rfl (fun ls hl => ?_)
      have hl : lv_has ls 8 [(5, .int (nI (0))), (4, .int (nI (k))), (0, .ref (ad (104))), (1, .int (nI (w))), (2, .int (nI (i))), (3, .int (nI (j)))] := hl
      refine pass1 99 0 k rho en1 H locs ls (by omega) (by omega) hfw hok h1 (fun rho en1 H locs ls hfw hok h1 hl hZ => ?_) hl hZ
      have hb := bf_lt hok (by omega)
      have hm := bf_mid u8 p2 hok h1
      have htb := hb (9 * T.length + u.1.length) (by omega)
      have hfr := hfw.1
      obtain ⟨f, e9, hf⟩ := hfw.2
      have q1 := (hfr 104 (by omega)).trans p1
      have q4 := (hfr 105 (by omega)).trans p4
      have q6 := (hfr 106 (by omega)).trans p6
      have q7 := (hfr 107 (by omega)).trans p7
      refine lv_aload_n hF.1 hF.2.1 d_M_far_141 rfl (lv_at hl 2 rfl) ?_
      refine gf_M_22 hF hZ (104) (by omega) q1 rfl d_M_far_142 ?_
      refine lv_bipush (v := (nI (9))) hF.1 hF.2.1 d_M_far_145 (by decide) ?_
      refine lv_aload_n hF.1 hF.2.1 d_M_far_147 rfl (lv_at hl 2 rfl) ?_
      refine gf_M_29 hF hZ (104) (by omega) q1 rfl d_M_far_148 ?_
      refine lv_imul hF.1 hF.2.1 d_M_far_151 ?_
      refine z_top (pk_mul (9) (T.length)) ?_
      refine lv_aload_n hF.1 hF.2.1 d_M_far_152 rfl (lv_at hl 2 rfl) ?_
      refine gf_M_16 hF hZ (104) (by omega) q1 rfl d_M_far_153 ?_
      refine lv_iload_n hF.1 hF.2.1 d_M_far_156 rfl (lv_at hl 3 rfl) ?_
      refine z_iald hF hZ (107) (by omega) q7 (w) (by omega) (by omega) d_M_far_157 ?_
      refine z_top (y := (nI (u.1.length))) us ?_
      refine lv_iadd hF.1 hF.2.1 d_M_far_158 ?_
      refine z_top (nI_add ((9) * (T.length)) (u.1.length)) ?_
      refine z_iald hF hZ (109) (by omega) e9 ((9) * (T.length) + u.1.length) (by omega) (by omega) d_M_far_159 ?_
      refine z_top (y := (iv (rho (9 * T.length + u.1.length)))) (hf _ (by omega)) ?_
      refine lv_iload hF.1 hF.2.1 d_M_far_160 (lv_at hl 1 rfl) ?_
      refine lv_icmp_ne (tgt := 168) hF.1 hF.2.1 d_M_far_162 (by decide) (fun z => ?_) (fun z => ?_)
      · obtain ⟨h2, hlt⟩ := hm.2 (fun y => z ((iv_nI htb (by omega)).mpr y))
        refine lv_iconst (v := (nI (0))) hF.1 hF.2.1 d_M_far_168 (by decide) ?_
        refine lv_istore hF.1 hF.2.1 d_M_far_169 hl (by decide) rfl (fun ls hl => ?_)
        have hl : lv_has ls 8 [(5, .int (nI (0))), (4, .int (nI (k))), (0, .ref (ad (104))), (1, .int (nI (w))), (2, .int (nI (i))), (3, .int (nI (j)))] := hl
        refine pass2 99 0 k rho en1 H locs ls (by omega) (by omega) hfw (bf_ok_up hok (by omega)) h2 (fun rho en1 H locs ls hfw hok h1 hl hZ => ?_) hl hZ
        refine lv_iinc (k := 1) (v := (nI (k + 1))) hF.1 hF.2.1 d_M_far_297 hl rfl (iinc_p (k)) (by decide) rfl (fun ls hl => ?_)
        have hl : lv_has ls 8 [(4, .int (nI (k + 1))), (5, .int (nI (99))), (0, .ref (ad (104))), (1, .int (nI (w))), (2, .int (nI (i))), (3, .int (nI (j)))] := hl
        refine lv_goto (tgt := 39) hF.1 hF.2.1 d_M_far_300 (by decide) ?_
        exact ih (k + 1) rho en1 H locs ls (by omega) hfw hok h1 (lv_sub hl [0, 2, 3, 4, 5] rfl) hZ
      · have hks := hm.1 ((iv_nI htb (by omega)).mp z)
        refine lv_iload hF.1 hF.2.1 d_M_far_165 (lv_at hl 1 rfl) ?_
        exact z_iret hF hr hlocks hZ rfl ⟨by rw [hks, hds], ⟨f, e9⟩, hfr⟩ d_M_far_167
  have fill : ∀ (n q : Nat) (f : Nat → Int32) (en1 : Nat → va_E) (H : Heap) (locs : List Loc) (ls : Array Slot), q + n = 99 → (∀ r, r ≠ 109 → en1 r = en r) → (en1 109 = .inl (zI G, 99, .inl f)) → (∀ x, x < q → f x = -1) → lv_has ls 8 [(4, .int (nI (q))), (0, .ref (ad (104))), (1, .int (nI (w))), (2, .int (nI (i))), (3, .int (nI (j)))] → zH G ad en1 N s H locs → W p l e (zR 2) s m ([.ref (ad (104)), .int (nI (w)), .int (nI (i)), .int (nI (j))] : List Value).toArray below meth c H locs 0 0 (MQ below (zQi G ad N (fun v en1 => v = nI (ed_d T u.1 i j) ∧ (∃ f : Nat → Int32, en1 109 = .inl (zI G, 99, .inl f)) ∧ ∀ r, r ≠ 109 → en1 r = en r)) ([.ref (ad (104)), .int (nI (w)), .int (nI (i)), .int (nI (j))] : List Value).toArray s 0 0 (zA G)) (F0 m 3 ls []) := by
    intro n
    induction n with
    | zero =>
      intro q f en1 H locs ls hin hfr e9 hf hl hZ
      have q1 := (hfr 104 (by omega)).trans p1
      refine lv_iload hF.1 hF.2.1 d_M_far_3 (lv_at hl 0 rfl) ?_
      refine lv_bipush (v := (nI (99))) hF.1 hF.2.1 d_M_far_5 (by decide) ?_
      refine lv_icmp_ge (tgt := 24) hF.1 hF.2.1 d_M_far_7 (by decide) (fun _ => ?_) (fun h => absurd (nI_le (by omega) (by omega)) h)
      refine lv_aload_n hF.1 hF.2.1 d_M_far_24 rfl (lv_at hl 1 rfl) ?_
      refine gf_M_22 hF hZ (104) (by omega) q1 rfl d_M_far_25 ?_
      refine lv_bipush (v := (nI (9))) hF.1 hF.2.1 d_M_far_28 (by decide) ?_
      refine lv_iload_n hF.1 hF.2.1 d_M_far_30 rfl (lv_at hl 3 rfl) ?_
      refine lv_imul hF.1 hF.2.1 d_M_far_31 ?_
      refine z_top (pk_mul (9) (i)) ?_
      refine lv_iload_n hF.1 hF.2.1 d_M_far_32 rfl (lv_at hl 4 rfl) ?_
      refine lv_iadd hF.1 hF.2.1 d_M_far_33 ?_
      refine z_top (nI_add ((9) * (i)) (j)) ?_
      refine lv_iconst (v := (nI (0))) hF.1 hF.2.1 d_M_far_34 (by decide) ?_
      refine z_iast hF hZ (109) (by omega) e9 ((9) * (i) + j) (by omega) (by omega) d_M_far_35 (fun H locs hZ => ?_)
      obtain ⟨ze11, hn12⟩ : ∃ z, z = va_up en1 (109) (.inl (zI G, 99, .inl (upd (f) ((9) * (i) + j) (nI (0))))) := ⟨_, rfl⟩
      have hZ : zH G ad ze11 N s H locs := hZ.to hn12.symm
      have ff13 : ze11 (104) = .inr (kM, [.ref (ad (105)), .int (nI (T.length)), .ref (ad (106)), .ref (ad (107)), .ref (ad (108)), .int (nI (mw.length)), .ref (ad (109)), .ref (ad (110))]) := by rw [hn12, va_up_ne _ _ (by omega)]; exact q1
      have ff14 : ze11 (109) = .inl (zI G, 99, .inl (upd (f) ((9) * (i) + j) (nI (0)))) := by rw [hn12]; exact va_up_self _ _ _
      refine lv_iconst (v := (nI (0))) hF.1 hF.2.1 d_M_far_36 (by decide) ?_
      refine lv_istore hF.1 hF.2.1 d_M_far_37 hl (by decide) rfl (fun ls hl => ?_)
      have hl : lv_has ls 8 [(4, .int (nI (0))), (0, .ref (ad (104))), (1, .int (nI (w))), (2, .int (nI (i))), (3, .int (nI (j)))] := hl
      have h0 := bf_0 u8 p2 hi hj
      rw [← hds] at h0
      refine main 19 0 _ ze11 H locs ls (by omega) ⟨fun r hr => by rw [hn12, va_up_ne _ _ hr]; exact hfr r hr, _, ff14, fun x hx => ?_⟩ h0.1 h0.2 hl hZ
      by_cases y : x = 9 * i + j
      · subst y; rw [pk_us]; show _ = iv (if _ then 1 else 0); rw [if_pos rfl]; rfl
      · rw [pk_un y, hf x (by omega)]; show _ = iv (if _ then 1 else 0); rw [if_neg y]; exact iv_0.symm
    | succ n ih =>
      intro q f en1 H locs ls hin hfr e9 hf hl hZ
      have q1 := (hfr 104 (by omega)).trans p1
      refine lv_iload hF.1 hF.2.1 d_M_far_3 (lv_at hl 0 rfl) ?_
      refine lv_bipush (v := (nI (99))) hF.1 hF.2.1 d_M_far_5 (by decide) ?_
      refine lv_icmp_ge (tgt := 24) hF.1 hF.2.1 d_M_far_7 (by decide) (fun h => absurd h (nI_ge (show q < 99 by omega) (by omega))) (fun _ => ?_)
      refine lv_aload_n hF.1 hF.2.1 d_M_far_10 rfl (lv_at hl 1 rfl) ?_
      refine gf_M_22 hF hZ (104) (by omega) q1 rfl d_M_far_11 ?_
      refine lv_iload hF.1 hF.2.1 d_M_far_14 (lv_at hl 0 rfl) ?_
      refine lv_iconst (v := ((-1))) hF.1 hF.2.1 d_M_far_16 (by decide) ?_
      refine z_iast hF hZ (109) (by omega) e9 (q) (by omega) (by omega) d_M_far_17 (fun H locs hZ => ?_)
      obtain ⟨ze15, hn16⟩ : ∃ z, z = va_up en1 (109) (.inl (zI G, 99, .inl (upd (f) (q) ((-1))))) := ⟨_, rfl⟩
      have hZ : zH G ad ze15 N s H locs := hZ.to hn16.symm
      have ff17 : ze15 (104) = .inr (kM, [.ref (ad (105)), .int (nI (T.length)), .ref (ad (106)), .ref (ad (107)), .ref (ad (108)), .int (nI (mw.length)), .ref (ad (109)), .ref (ad (110))]) := by rw [hn16, va_up_ne _ _ (by omega)]; exact q1
      have ff18 : ze15 (109) = .inl (zI G, 99, .inl (upd (f) (q) ((-1)))) := by rw [hn16]; exact va_up_self _ _ _
      refine lv_iinc (k := 0) (v := (nI (q + 1))) hF.1 hF.2.1 d_M_far_18 hl rfl (iinc_p (q)) (by decide) rfl (fun ls hl => ?_)
      have hl : lv_has ls 8 [(4, .int (nI (q + 1))), (0, .ref (ad (104))), (1, .int (nI (w))), (2, .int (nI (i))), (3, .int (nI (j)))] := hl
      refine lv_goto (tgt := 3) hF.1 hF.2.1 d_M_far_21 (by decide) ?_
      refine ih (q + 1) _ ze15 H locs ls (by omega) (fun r hr => by rw [hn16, va_up_ne _ _ hr]; exact hfr r hr) ff18 (fun x hx => ?_) hl hZ
      by_cases y : x = q
      · subst y; rw [pk_us]
      · rw [pk_un y]; exact hf x (by omega)
  refine lv_iconst (v := (nI (0))) hF.1 hF.2.1 d_M_far_0 (by decide) ?_
  refine lv_istore hF.1 hF.2.1 d_M_far_1 hl (by decide) rfl (fun ls hl => ?_)
  have hl : lv_has ls 8 [(4, .int (nI (0))), (0, .ref (ad (104))), (1, .int (nI (w))), (2, .int (nI (i))), (3, .int (nI (j)))] := hl
  exact fill 99 0 fr en _ _ ls (by omega) (fun _ _ => rfl) p10 (fun x hx => absurd hx (Nat.not_lt_zero _)) hl hZ
