theorem sh_l : ∀ k, k < 32 → ((nI k &&& 31).toBitVec.smod 32).toNat = k := by decide
theorem sh_r {a k : Nat} (ha : a < 2 ^ 31) (hk : k < 32) : nI a >>> (nI k &&& 31) = nI (a / 2 ^ k) := pk_shrN ha _ k (sh_l k hk)
theorem an_1 {a : Nat} (ha : a < 2 ^ 31) : nI a &&& nI 1 = nI (a % 2) := by
  have := pk_andN (n := a) (m := nI 1) (by omega) 1 (by decide)
  exact this
theorem sh_1 {k : Nat} (hk : k < 30) : nI 1 <<< (nI k &&& 31) = nI (2 ^ k) := by
  have h : 2 ^ k ≤ 2 ^ 29 := Nat.pow_le_pow_right (by omega) (by omega)
  have := pk_shlN (n := 1) (nI k &&& 31) k (sh_l k (by omega)) (by omega)
  rw [this, Nat.one_mul]
theorem lg_cmp_0 {x y : Int64} : lg_cmp x y = 0 ↔ x = y := by
  unfold lg_cmp
  by_cases a : y < x
  · rw [if_pos a]
    constructor
    · intro z; exact absurd z (by decide)
    · intro z; rw [z] at a; exact absurd a (Int64.lt_irrefl)
  · rw [if_neg a]
    by_cases b : x = y
    · simp [b]
    · have hlt : x < y := by
        rw [Int64.lt_iff_toInt_lt] at a ⊢
        have : ¬ x.toInt = y.toInt := fun z => b (Int64.toInt_inj.mp z)
        omega
      simp [b]
section ZS
variable {p : Program} {l : Launch} {e : Env} {R : Room} {s : State} {m : MethodId} {args : Array Value} {below : List Frame} {meth : Method} {c : Code} {H : Heap} {locs : List Loc} {cells slots : Nat} {Q : State → Prop}
variable {cc : ByteArray} {pc nL index : Nat} {ls : Array Slot} {rest st0 : List Value} {G : zG} {ad : Nat → Nat} {en : Nat → va_E} {N : Nat} {own : String}
theorem z_runS {y : MethodName} {b : ByteArray} {nn n d : Nat} {r : Option FieldType} {As : List Value} {Qc : Array Value → State → Outcome → State → Prop} (c1 : Cond.code y b nn r ∈ zz) (c2 : Cond.methodLink own index y ∈ zz) (c3 : Cond.initialized y.cls ∈ zz) (c4 : Cond.static y ∈ zz) (c5 : y.cls ≠ "java/lang/invoke/MethodHandle" ∧ y.cls ≠ "java/lang/invoke/VarHandle" ∧ (parseMethodDescriptor y.desc).map (fun d => d.parameters.length) = some n) (hF : CallFix p m c cc nL s args zz own) (hZ : zH G ad en N s H locs) (hM : Met l y (.code y b nn r :: zz) (zR d) (zP G ad en N As) Qc 0 0 (zA G))
    (hR : d + 1 ≤ R.frames ∧ 8 + (nn + 11) + 40 * d ≤ R.locals ∧ cells ≤ R.cells ∧ slots ≤ R.slots) (hn : As.length = n) (hsz : ls.size = nL) (hst : st0 = As.reverse ++ rest) (hrs : (rest.map fun v => v.category).sum ≤ 8) (hdg : decode cc pc = .ok (.invokestatic index, 3)) :
    va_Run p l e R s m args below meth c H locs cells slots 0 0 (F0 m pc ls st0) rest (Qc As.toArray) (zA G) := by
  have hts := hF.2.2.2.2
  refine va_runS (nL := nL) (cc := cc) (Ts := zz) (own := own) hF hM (bytes := b) (maxL := nn) (ret := r) (n := n) (index := index) ?_ ⟨zP.blind, hZ.pre⟩ rfl hn hsz hst (lv_room hrs) hdg ⟨hR.2.2.1, hR.2.2.2⟩
  exact ⟨callB_of n hts (zgood0 c1) rfl rfl rfl (hts _ c3) (hts _ c2) c5 ⟨hR.1, hR.2.1⟩, hts _ c4⟩
end ZS
theorem dr_S_mono (t : List Nat) (e r : Nat) {a : Nat} : ∀ n, (dr_S t e r a).length ≤ (dr_S t e r (a + n)).length
  | 0 => Nat.le_refl _
  | n + 1 => by
    have ih := dr_S_mono t e r (a := a) n
    rw [← Nat.add_assoc, dr_S_s]
    split
    · rw [List.length_append]; omega
    · exact ih
theorem dr_S_lt {t : List Nat} (ht : ∀ i, t.getD i 0 < 26) {e r s x : Nat} (h : x ∈ dr_S t e r s) : x < 32 ^ e := by
  unfold dr_S at h
  obtain ⟨y, -, rfl⟩ := List.mem_map.mp h
  exact dr_c_lt t ht y e
theorem p_32 {e : Nat} (h : e ≤ 10) : 32 ^ e < 2 ^ 63 := Nat.lt_of_le_of_lt (Nat.pow_le_pow_right (by omega) h) (by decide)
theorem p_2 {e : Nat} (h : e ≤ 10) : 2 ^ e ≤ 1024 := Nat.pow_le_pow_right (by omega) h
set_option maxHeartbeats 4000000 in
set_option maxRecDepth 100000 in
theorem c_M_bits (l : Launch) {G : zG} {ad : Nat → Nat} {en : Nat → va_E} {N : Nat} {a : Nat} (ha : a < 2 ^ 30) : zMi l y_M_bits b_M_bits 3 .int 1 G ad en N [.int (nI (a))] (fun v en1 => en1 = en ∧ v = nI (dr_b 10 a)) := by
  refine z_met (by decide) (Nat.le_of_ble_eq_true rfl) ?_
  intro p e s m below meth c ls hF hr hlocks hnam hZ hl
  have hF : CallFix p m c b_M_bits 3 s ([.int (nI (a))] : List Value).toArray zz R_M := hF
  have hl : lv_has ls 3 [(0, .int (nI (a)))] := hl
  have loop : ∀ (n k : Nat) (H : Heap) (locs : List Loc) (ls : Array Slot), (k + n = 10) → lv_has ls 3 [(2, .int (nI (k))), (1, .int (nI (dr_b k a))), (0, .int (nI (a)))] → zH G ad en N s H locs → W p l e (zR 1) s m ([.int (nI (a))] : List Value).toArray below meth c H locs 0 0 (MQ below (zQi G ad N (fun v en1 => en1 = en ∧ v = nI (dr_b 10 a))) ([.int (nI (a))] : List Value).toArray s 0 0 (zA G)) (F0 m 4 ls []) := by
    intro n
    induction n with
    | zero =>
      intro k H locs ls hin hl hZ
      have hk : k = 10 := by omega
      subst hk
      refine lv_iload_n hF.1 hF.2.1 d_M_bits_4 rfl (lv_at hl 0 rfl) ?_
      refine lv_bipush (v := (nI (10))) hF.1 hF.2.1 d_M_bits_5 (by decide) ?_
      refine lv_icmp_ge (tgt := 24) hF.1 hF.2.1 d_M_bits_7 (by decide) (fun _ => ?_) (fun h => absurd (nI_le (by omega) (by omega)) h)
      refine lv_iload_n hF.1 hF.2.1 d_M_bits_24 rfl (lv_at hl 1 rfl) ?_
      exact z_iret hF hr hlocks hZ rfl ⟨rfl, rfl⟩ d_M_bits_25
    | succ n ih =>
      intro k H locs ls hin hl hZ
      have hd : a / 2 ^ k ≤ a := Nat.div_le_self _ _
      refine lv_iload_n hF.1 hF.2.1 d_M_bits_4 rfl (lv_at hl 0 rfl) ?_
      refine lv_bipush (v := (nI (10))) hF.1 hF.2.1 d_M_bits_5 (by decide) ?_
      refine lv_icmp_ge (tgt := 24) hF.1 hF.2.1 d_M_bits_7 (by decide) (fun h => absurd h (nI_ge (show k < 10 by omega) (by omega))) (fun _ => ?_)
      refine lv_iload_n hF.1 hF.2.1 d_M_bits_10 rfl (lv_at hl 1 rfl) ?_
      refine lv_iload_n hF.1 hF.2.1 d_M_bits_11 rfl (lv_at hl 2 rfl) ?_
      refine lv_iload_n hF.1 hF.2.1 d_M_bits_12 rfl (lv_at hl 0 rfl) ?_
      refine lv_ishr hF.1 hF.2.1 d_M_bits_13 ?_
      refine z_top (y := (nI (a / 2 ^ k))) (sh_r (by omega) (by omega)) ?_
      refine lv_iconst (v := (nI (1))) hF.1 hF.2.1 d_M_bits_14 (by decide) ?_
      refine lv_iand hF.1 hF.2.1 d_M_bits_15 ?_
      refine z_top (y := (nI (a / 2 ^ k % 2))) (an_1 (by omega)) ?_
      refine lv_iadd hF.1 hF.2.1 d_M_bits_16 ?_
      refine z_top (nI_add (dr_b k a) (a / 2 ^ k % 2)) ?_
      refine lv_istore_n hF.1 hF.2.1 d_M_bits_17 rfl hl (by decide) rfl (fun ls hl => ?_)
      have hl : lv_has ls 3 [(1, .int (nI (dr_b k a + a / 2 ^ k % 2))), (2, .int (nI (k))), (0, .int (nI (a)))] := hl
      refine lv_iinc (k := 1) (v := (nI (k + 1))) hF.1 hF.2.1 d_M_bits_18 hl rfl (iinc_p (k)) (by decide) rfl (fun ls hl => ?_)
      have hl : lv_has ls 3 [(2, .int (nI (k + 1))), (1, .int (nI (dr_b k a + a / 2 ^ k % 2))), (0, .int (nI (a)))] := hl
      refine lv_goto (tgt := 4) hF.1 hF.2.1 d_M_bits_21 (by decide) ?_
      exact ih (k + 1) H locs ls (by omega) (lv_sub hl [0, 1, 2] rfl) hZ
  refine lv_iconst (v := (nI (0))) hF.1 hF.2.1 d_M_bits_0 (by decide) ?_
  refine lv_istore_n hF.1 hF.2.1 d_M_bits_1 rfl hl (by decide) rfl (fun ls hl => ?_)
  have hl : lv_has ls 3 [(1, .int (nI (0))), (0, .int (nI (a)))] := hl
  refine lv_iconst (v := (nI (0))) hF.1 hF.2.1 d_M_bits_2 (by decide) ?_
  refine lv_istore_n hF.1 hF.2.1 d_M_bits_3 rfl hl (by decide) rfl (fun ls hl => ?_)
  have hl : lv_has ls 3 [(2, .int (nI (0))), (1, .int (nI (0))), (0, .int (nI (a)))] := hl
  exact loop 10 0 _ _ ls (by omega) (lv_sub hl [0, 1, 2] rfl) hZ
set_option maxHeartbeats 4000000 in
set_option maxRecDepth 100000 in
theorem c_M_left (l : Launch) {G : zG} {ad : Nat → Nat} {en : Nat → va_E} {N : Nat} {T : List Nat} {mw : List wd_W} (hN : 111 ≤ N) (h : pM G ad en T mw) {a : Nat} (ha : a < 2 ^ 30) : zMl l y_M_left b_M_left 5 1 G ad en N [.ref (ad (104)), .int (nI (a))] (fun v en1 => en1 = en ∧ v = lN (dr_c T T.length a)) := by
  have hh := h
  obtain ⟨p1, p2, p26, p3, ⟨ft, p4, p5⟩, ⟨fl, fs, fc, p6, p7, p8, p9⟩, ⟨fr, p10⟩, fj, p11⟩ := hh
  refine z_met (by decide) (Nat.le_of_ble_eq_true rfl) ?_
  intro p e s m below meth c ls hF hr hlocks hnam hZ hl
  have hF : CallFix p m c b_M_left 5 s ([.ref (ad (104)), .int (nI (a))] : List Value).toArray zz R_M := hF
  have hl : lv_has ls 5 [(0, .ref (ad (104))), (1, .int (nI (a)))] := hl
  have loop : ∀ (n k : Nat) (H : Heap) (locs : List Loc) (ls : Array Slot), (k + n = T.length) → lv_has ls 5 [(4, .int (nI (k))), (2, .long (lN (dr_c T k a))), (0, .ref (ad (104))), (1, .int (nI (a)))] → zH G ad en N s H locs → W p l e (zR 1) s m ([.ref (ad (104)), .int (nI (a))] : List Value).toArray below meth c H locs 0 0 (MQ below (zQl G ad N (fun v en1 => en1 = en ∧ v = lN (dr_c T T.length a))) ([.ref (ad (104)), .int (nI (a))] : List Value).toArray s 0 0 (zA G)) (F0 m 5 ls []) := by
    intro n
    induction n with
    | zero =>
      intro k H locs ls hin hl hZ
      refine lv_iload hF.1 hF.2.1 d_M_left_5 (lv_at hl 0 rfl) ?_
      refine lv_aload_n hF.1 hF.2.1 d_M_left_7 rfl (lv_at hl 2 rfl) ?_
      refine gf_M_29 hF hZ (104) (by omega) p1 rfl d_M_left_8 ?_
      refine lv_icmp_ge (tgt := 47) hF.1 hF.2.1 d_M_left_11 (by decide) (fun _ => ?_) (fun h => absurd (nI_le (by omega) (by omega)) h)
      refine lv_lload_n hF.1 hF.2.1 d_M_left_47 rfl (lv_at hl 1 rfl) ?_
      exact z_lret hF hr hlocks hZ ⟨rfl, by rw [show k = T.length by omega]⟩ d_M_left_48
    | succ n ih =>
      intro k H locs ls hin hl hZ
      have hd : a / 2 ^ k ≤ a := Nat.div_le_self _ _
      have ht := p26 k
      refine lv_iload hF.1 hF.2.1 d_M_left_5 (lv_at hl 0 rfl) ?_
      refine lv_aload_n hF.1 hF.2.1 d_M_left_7 rfl (lv_at hl 2 rfl) ?_
      refine gf_M_29 hF hZ (104) (by omega) p1 rfl d_M_left_8 ?_
      refine lv_icmp_ge (tgt := 47) hF.1 hF.2.1 d_M_left_11 (by decide) (fun h => absurd h (nI_ge (show k < T.length by omega) (by omega))) (fun _ => ?_)
      refine lv_iload_n hF.1 hF.2.1 d_M_left_14 rfl (lv_at hl 3 rfl) ?_
      refine lv_iload hF.1 hF.2.1 d_M_left_15 (lv_at hl 0 rfl) ?_
      refine lv_ishr hF.1 hF.2.1 d_M_left_17 ?_
      refine z_top (y := (nI (a / 2 ^ k))) (sh_r (by omega) (by omega)) ?_
      refine lv_iconst (v := (nI (1))) hF.1 hF.2.1 d_M_left_18 (by decide) ?_
      refine lv_iand hF.1 hF.2.1 d_M_left_19 ?_
      refine z_top (y := (nI (a / 2 ^ k % 2))) (an_1 (by omega)) ?_
      refine lv_iconst (v := (nI (1))) hF.1 hF.2.1 d_M_left_20 (by decide) ?_
      refine lv_icmp_ne (tgt := 41) hF.1 hF.2.1 d_M_left_21 (by decide) (fun q => ?_) (fun q => ?_)
      · have q : ¬ a / 2 ^ k % 2 = 1 := fun z => q (by rw [z])
        refine lv_iinc (k := 0) (v := (nI (k + 1))) hF.1 hF.2.1 d_M_left_41 hl rfl (iinc_p (k)) (by decide) rfl (fun ls hl => ?_)
        have hl : lv_has ls 5 [(4, .int (nI (k + 1))), (2, .long (lN (dr_c T k a))), (0, .ref (ad (104))), (1, .int (nI (a)))] := hl
        refine lv_goto (tgt := 5) hF.1 hF.2.1 d_M_left_44 (by decide) ?_
        exact ih (k + 1) H locs ls (by omega) (by rw [dr_c, if_neg q]; exact lv_sub hl [0, 1, 2, 3] rfl) hZ
      · have q : a / 2 ^ k % 2 = 1 := (nI_eq (by omega) (by omega)).mp q
        refine lv_ldc2 hF.1 hF.2.1 hF.2.2.2.1 (hF.2.2.2.2 _ cn_M_76) d_M_left_24 ?_
        refine z_topl (y := lN 32) (by decide) ?_
        refine lv_lload_n hF.1 hF.2.1 d_M_left_27 rfl (lv_at hl 1 rfl) ?_
        refine lv_lmul hF.1 hF.2.1 d_M_left_28 ?_
        refine z_topl (lN_mul (32) (dr_c T k a)) ?_
        refine lv_aload_n hF.1 hF.2.1 d_M_left_29 rfl (lv_at hl 2 rfl) ?_
        refine gf_M_7 hF hZ (104) (by omega) p1 rfl d_M_left_30 ?_
        refine lv_iload hF.1 hF.2.1 d_M_left_33 (lv_at hl 0 rfl) ?_
        refine z_iald hF hZ (105) (by omega) p4 (k) (by omega) (by omega) d_M_left_35 ?_
        refine z_top (y := (nI (T.getD k 0))) (p5 k (by omega)) ?_
        refine lv_i2l (v := lN (T.getD k 0)) hF.1 hF.2.1 d_M_left_36 (nI_l (by omega)) ?_
        refine lv_ladd hF.1 hF.2.1 d_M_left_37 ?_
        refine z_topl (lN_add ((32) * (dr_c T k a)) (T.getD k 0)) ?_
        refine lv_lconst (v := lN 1) hF.1 hF.2.1 d_M_left_38 rfl ?_
        refine lv_ladd hF.1 hF.2.1 d_M_left_39 ?_
        refine z_topl (lN_add (((32) * (dr_c T k a)) + (T.getD k 0)) (1)) ?_
        refine lv_lstore_n hF.1 hF.2.1 d_M_left_40 rfl hl (by decide) rfl (fun ls hl => ?_)
        have hl : lv_has ls 5 [(2, .long (lN ((((32) * (dr_c T k a)) + (T.getD k 0)) + (1)))), (4, .int (nI (k))), (0, .ref (ad (104))), (1, .int (nI (a)))] := hl
        refine lv_iinc (k := 1) (v := (nI (k + 1))) hF.1 hF.2.1 d_M_left_41 hl rfl (iinc_p (k)) (by decide) rfl (fun ls hl => ?_)
        have hl : lv_has ls 5 [(4, .int (nI (k + 1))), (2, .long (lN ((((32) * (dr_c T k a)) + (T.getD k 0)) + (1)))), (0, .ref (ad (104))), (1, .int (nI (a)))] := hl
        refine lv_goto (tgt := 5) hF.1 hF.2.1 d_M_left_44 (by decide) ?_
        exact ih (k + 1) H locs ls (by omega) (by rw [dr_c, if_pos q]; exact lv_sub hl [0, 1, 2, 3] rfl) hZ
  refine lv_lconst (v := lN 0) hF.1 hF.2.1 d_M_left_0 rfl ?_
  refine lv_lstore_n hF.1 hF.2.1 d_M_left_1 rfl hl (by decide) rfl (fun ls hl => ?_)
  have hl : lv_has ls 5 [(2, .long (lN (0))), (0, .ref (ad (104))), (1, .int (nI (a)))] := hl
  refine lv_iconst (v := (nI (0))) hF.1 hF.2.1 d_M_left_2 (by decide) ?_
  refine lv_istore hF.1 hF.2.1 d_M_left_3 hl (by decide) rfl (fun ls hl => ?_)
  have hl : lv_has ls 5 [(4, .int (nI (0))), (2, .long (lN (0))), (0, .ref (ad (104))), (1, .int (nI (a)))] := hl
  exact loop T.length 0 _ _ ls (by omega) hl hZ
set_option maxHeartbeats 4000000 in
set_option maxRecDepth 100000 in
theorem c_M_dropsNo (l : Launch) {G : zG} {ad : Nat → Nat} {en : Nat → va_E} {N : Nat} {T : List Nat} {mw : List wd_W} (hN : 111 ≤ N) (h : pM G ad en T mw) {k : Int32} (hno : k < 0 ∨ nI T.length < k) : zMi l y_M_drops b_M_drops 8 .int 2 G ad en N [.ref (ad (104)), .int (k)] (fun v en1 => en1 = en ∧ v = 0) := by
  have hh := h
  obtain ⟨p1, p2, p26, p3, ⟨ft, p4, p5⟩, ⟨fl, fs, fc, p6, p7, p8, p9⟩, ⟨fr, p10⟩, fj, p11⟩ := hh
  refine z_met (by decide) (Nat.le_of_ble_eq_true rfl) ?_
  intro p e s m below meth c ls hF hr hlocks hnam hZ hl
  have hF : CallFix p m c b_M_drops 8 s ([.ref (ad (104)), .int (k)] : List Value).toArray zz R_M := hF
  have hl : lv_has ls 8 [(0, .ref (ad (104))), (1, .int (k))] := hl
  refine lv_iload_n hF.1 hF.2.1 d_M_drops_0 rfl (lv_at hl 1 rfl) ?_
  refine lv_if_lt (tgt := 12) hF.1 hF.2.1 d_M_drops_1 (by decide) (fun q => ?_) (fun q => ?_)
  · refine lv_iconst (v := (nI (0))) hF.1 hF.2.1 d_M_drops_12 (by decide) ?_
    exact z_iret hF hr hlocks hZ rfl ⟨rfl, by decide⟩ d_M_drops_13
  · refine lv_iload_n hF.1 hF.2.1 d_M_drops_4 rfl (lv_at hl 1 rfl) ?_
    refine lv_aload_n hF.1 hF.2.1 d_M_drops_5 rfl (lv_at hl 0 rfl) ?_
    refine gf_M_29 hF hZ (104) (by omega) p1 rfl d_M_drops_6 ?_
    refine lv_icmp_le (tgt := 14) hF.1 hF.2.1 d_M_drops_9 (by decide) (fun h => absurd h (fun z => by
        have y := hno.resolve_left q
        rw [Int32.lt_iff_toInt_lt] at y; rw [Int32.le_iff_toInt_le] at z; omega)) (fun _ => ?_)
    refine lv_iconst (v := (nI (0))) hF.1 hF.2.1 d_M_drops_12 (by decide) ?_
    exact z_iret hF hr hlocks hZ rfl ⟨rfl, by decide⟩ d_M_drops_13
set_option maxHeartbeats 4000000 in
set_option maxRecDepth 100000 in
theorem c_M_drops (l : Launch) {G : zG} {ad : Nat → Nat} {en : Nat → va_E} {N : Nat} {T : List Nat} {mw : List wd_W} (hN : 111 ≤ N) (h : pM G ad en T mw) {j : Nat} (hj : j ≤ T.length) : zMi l y_M_drops b_M_drops 8 .int 2 G ad en N [.ref (ad (104)), .int (nI (j))] (fun v en1 => pM G ad en1 T mw ∧ (∀ r, r ≠ 110 → en1 r = en r) ∧ v = nI (dr_K T T.length (T.length - j))) := by
  have p2 := h.2.1
  have p26 := h.2.2.1
  obtain ⟨rr, hrr⟩ : ∃ z, z = T.length - j := ⟨_, rfl⟩
  have hp2 := p_2 p2
  have hp32 := p_32 p2
  have hk252 : (dr_L T T.length rr).length ≤ 252 := by rw [dr_len]; exact dr_252 _ (by omega) _ (by omega)
  refine z_met (by decide) (Nat.le_of_ble_eq_true rfl) ?_
  intro p e s m below meth c ls hF hr hlocks hnam hZ hl
  have hF : CallFix p m c b_M_drops 8 s ([.ref (ad (104)), .int (nI (j))] : List Value).toArray zz R_M := hF
  have hl : lv_has ls 8 [(0, .ref (ad (104))), (1, .int (nI (j)))] := hl
  have inner : ∀ (n q a x : Nat) (us : List Nat) (en1 : Nat → va_E) (fj : Nat → Int64) (H : Heap) (locs : List Loc) (ls : Array Slot), q + n = us.length → us.length ≤ 252 → x < 2 ^ 63 → (∀ y ∈ us, y < 2 ^ 63) → (∀ r, r ≠ 110 → en1 r = en r) → (pM G ad en1 T mw) → (en1 110 = .inl (zJ G, 252, .inr (.inl fj))) → (∀ i, i < us.length → fj i = lN (us.getD i 0)) → (∀ (H : Heap) (locs : List Loc) (ls : Array Slot), lv_has ls 8 [(7, .int (nI (us.length))), (6, .int (bI (decide (x ∈ us)))), (4, .long (lN (x))), (3, .int (nI (a))), (2, .int (nI (us.length))), (0, .ref (ad (104))), (1, .int (nI (j)))] → zH G ad en1 N s H locs → W p l e (zR 2) s m ([.ref (ad (104)), .int (nI (j))] : List Value).toArray below meth c H locs 0 0 (MQ below (zQi G ad N (fun v en1 => pM G ad en1 T mw ∧ (∀ r, r ≠ 110 → en1 r = en r) ∧ v = nI (dr_K T T.length (T.length - j)))) ([.ref (ad (104)), .int (nI (j))] : List Value).toArray s 0 0 (zA G)) (F0 m 94 ls [])) → lv_has ls 8 [(7, .int (nI (q))), (6, .int (bI (decide (x ∈ us.take q)))), (4, .long (lN (x))), (3, .int (nI (a))), (2, .int (nI (us.length))), (0, .ref (ad (104))), (1, .int (nI (j)))] → zH G ad en1 N s H locs → W p l e (zR 2) s m ([.ref (ad (104)), .int (nI (j))] : List Value).toArray below meth c H locs 0 0 (MQ below (zQi G ad N (fun v en1 => pM G ad en1 T mw ∧ (∀ r, r ≠ 110 → en1 r = en r) ∧ v = nI (dr_K T T.length (T.length - j)))) ([.ref (ad (104)), .int (nI (j))] : List Value).toArray s 0 0 (zA G)) (F0 m 57 ls []) := by
    intro n
    induction n with
    | zero =>
      intro q a x us en1 fj H locs ls hin hu hx hy hfr h1 e110 hf K hl hZ
      have hq : q = us.length := by omega
      subst hq
      rw [List.take_length] at hl
      refine lv_iload hF.1 hF.2.1 d_M_drops_57 (lv_at hl 0 rfl) ?_
      refine lv_iload_n hF.1 hF.2.1 d_M_drops_59 rfl (lv_at hl 4 rfl) ?_
      refine lv_icmp_ge (tgt := 94) hF.1 hF.2.1 d_M_drops_60 (by decide) (fun _ => ?_) (fun h => absurd (nI_le (Nat.le_refl _) (by omega)) h)
      exact K H locs ls hl hZ
    | succ n ih =>
      intro q a x us en1 fj H locs ls hin hu hx hy hfr h1 e110 hf K hl hZ
      have hs := wd_take_s (show q < us.length by omega)
      have hyq := hy (us.getD q 0) (by rw [List.getD_eq_getElem?_getD, List.getElem?_eq_getElem (by omega)]; exact List.getElem_mem _)
      have hh := h1
      obtain ⟨p1, p2, p26, p3, ⟨ft, p4, p5⟩, ⟨fl, fs, fc, p6, p7, p8, p9⟩, ⟨fr, p10⟩, -⟩ := hh
      refine lv_iload hF.1 hF.2.1 d_M_drops_57 (lv_at hl 0 rfl) ?_
      refine lv_iload_n hF.1 hF.2.1 d_M_drops_59 rfl (lv_at hl 4 rfl) ?_
      refine lv_icmp_ge (tgt := 94) hF.1 hF.2.1 d_M_drops_60 (by decide) (fun h => absurd h (nI_ge (show q < us.length by omega) (by omega))) (fun _ => ?_)
      refine lv_iload hF.1 hF.2.1 d_M_drops_63 (lv_at hl 1 rfl) ?_
      refine lv_if_ne (tgt := 81) hF.1 hF.2.1 d_M_drops_65 (by decide) (fun z => ?_) (fun z => ?_)
      · have z := of_decide_eq_true (bI_1 z)
        refine lv_iconst (v := (nI (1))) hF.1 hF.2.1 d_M_drops_81 (by decide) ?_
        refine lv_goto (tgt := 86) hF.1 hF.2.1 d_M_drops_82 (by decide) ?_
        refine lv_istore hF.1 hF.2.1 d_M_drops_86 hl (by decide) rfl (fun ls hl => ?_)
        have hl : lv_has ls 8 [(6, .int (nI (1))), (7, .int (nI (q))), (4, .long (lN (x))), (3, .int (nI (a))), (2, .int (nI (us.length))), (0, .ref (ad (104))), (1, .int (nI (j)))] := hl
        refine lv_iinc (k := 1) (v := (nI (q + 1))) hF.1 hF.2.1 d_M_drops_88 hl rfl (iinc_p (q)) (by decide) rfl (fun ls hl => ?_)
        have hl : lv_has ls 8 [(7, .int (nI (q + 1))), (6, .int (nI (1))), (4, .long (lN (x))), (3, .int (nI (a))), (2, .int (nI (us.length))), (0, .ref (ad (104))), (1, .int (nI (j)))] := hl
        refine lv_goto (tgt := 57) hF.1 hF.2.1 d_M_drops_91 (by decide) ?_
        exact ih (q + 1) a x us en1 fj H locs ls (by omega) hu hx hy hfr h1 e110 hf K (by rw [decide_eq_true (show x ∈ us.take (q + 1) by rw [hs]; exact List.mem_append_left _ z)]; exact lv_sub hl [0, 1, 2, 3, 4, 5, 6] rfl) hZ
      · have z := of_decide_eq_false (bI_0.mp z)
        refine lv_aload_n hF.1 hF.2.1 d_M_drops_68 rfl (lv_at hl 5 rfl) ?_
        refine gf_M_25 hF hZ (104) (by omega) p1 rfl d_M_drops_69 ?_
        refine lv_iload hF.1 hF.2.1 d_M_drops_72 (lv_at hl 0 rfl) ?_
        refine z_lald hF hZ (110) (by omega) e110 (q) (by omega) (by omega) d_M_drops_74 ?_
        refine z_topl (hf q (by omega)) ?_
        refine lv_lload hF.1 hF.2.1 d_M_drops_75 (lv_at hl 2 rfl) ?_
        refine W.lcmp hF.1 hF.2.1 d_M_drops_77 ?_
        refine lv_if_ne (tgt := 85) hF.1 hF.2.1 d_M_drops_78 (by decide) (fun v => ?_) (fun v => ?_)
        · have v : ¬ us.getD q 0 = x := fun y => v (lg_cmp_0.mpr (by rw [y]))
          refine lv_iconst (v := (nI (0))) hF.1 hF.2.1 d_M_drops_85 (by decide) ?_
          refine lv_istore hF.1 hF.2.1 d_M_drops_86 hl (by decide) rfl (fun ls hl => ?_)
          have hl : lv_has ls 8 [(6, .int (nI (0))), (7, .int (nI (q))), (4, .long (lN (x))), (3, .int (nI (a))), (2, .int (nI (us.length))), (0, .ref (ad (104))), (1, .int (nI (j)))] := hl
          refine lv_iinc (k := 1) (v := (nI (q + 1))) hF.1 hF.2.1 d_M_drops_88 hl rfl (iinc_p (q)) (by decide) rfl (fun ls hl => ?_)
          have hl : lv_has ls 8 [(7, .int (nI (q + 1))), (6, .int (nI (0))), (4, .long (lN (x))), (3, .int (nI (a))), (2, .int (nI (us.length))), (0, .ref (ad (104))), (1, .int (nI (j)))] := hl
          refine lv_goto (tgt := 57) hF.1 hF.2.1 d_M_drops_91 (by decide) ?_
          exact ih (q + 1) a x us en1 fj H locs ls (by omega) hu hx hy hfr h1 e110 hf K (by rw [decide_eq_false (show ¬ x ∈ us.take (q + 1) by rw [hs, List.mem_append, List.mem_singleton]; exact fun y => y.elim z (fun y => v y.symm))]; exact lv_sub hl [0, 1, 2, 3, 4, 5, 6] rfl) hZ
        · have v : us.getD q 0 = x := (pk_lEQ hyq hx).mp (lg_cmp_0.mp v)
          refine lv_iconst (v := (nI (1))) hF.1 hF.2.1 d_M_drops_81 (by decide) ?_
          refine lv_goto (tgt := 86) hF.1 hF.2.1 d_M_drops_82 (by decide) ?_
          refine lv_istore hF.1 hF.2.1 d_M_drops_86 hl (by decide) rfl (fun ls hl => ?_)
          have hl : lv_has ls 8 [(6, .int (nI (1))), (7, .int (nI (q))), (4, .long (lN (x))), (3, .int (nI (a))), (2, .int (nI (us.length))), (0, .ref (ad (104))), (1, .int (nI (j)))] := hl
          refine lv_iinc (k := 1) (v := (nI (q + 1))) hF.1 hF.2.1 d_M_drops_88 hl rfl (iinc_p (q)) (by decide) rfl (fun ls hl => ?_)
          have hl : lv_has ls 8 [(7, .int (nI (q + 1))), (6, .int (nI (1))), (4, .long (lN (x))), (3, .int (nI (a))), (2, .int (nI (us.length))), (0, .ref (ad (104))), (1, .int (nI (j)))] := hl
          refine lv_goto (tgt := 57) hF.1 hF.2.1 d_M_drops_91 (by decide) ?_
          exact ih (q + 1) a x us en1 fj H locs ls (by omega) hu hx hy hfr h1 e110 hf K (by rw [decide_eq_true (show x ∈ us.take (q + 1) by rw [hs, List.mem_append, List.mem_singleton]; exact Or.inr v.symm)]; exact lv_sub hl [0, 1, 2, 3, 4, 5, 6] rfl) hZ
  have outer : ∀ (n a : Nat) (en1 : Nat → va_E) (fj : Nat → Int64) (H : Heap) (locs : List Loc) (ls : Array Slot), (a + n = 2 ^ T.length) → (∀ r, r ≠ 110 → en1 r = en r) → (pM G ad en1 T mw) → (en1 110 = .inl (zJ G, 252, .inr (.inl fj))) → (∀ i, i < (dr_u (dr_S T T.length rr a)).length → fj i = lN ((dr_u (dr_S T T.length rr a)).getD i 0)) → lv_has ls 8 [(3, .int (nI (a))), (2, .int (nI ((dr_u (dr_S T T.length rr a)).length))), (0, .ref (ad (104))), (1, .int (nI (j)))] → zH G ad en1 N s H locs → W p l e (zR 2) s m ([.ref (ad (104)), .int (nI (j))] : List Value).toArray below meth c H locs 0 0 (MQ below (zQi G ad N (fun v en1 => pM G ad en1 T mw ∧ (∀ r, r ≠ 110 → en1 r = en r) ∧ v = nI (dr_K T T.length (T.length - j)))) ([.ref (ad (104)), .int (nI (j))] : List Value).toArray s 0 0 (zA G)) (F0 m 18 ls []) := by
    intro n
    induction n with
    | zero =>
      intro a en1 fj H locs ls hin hfr h1 e110 hf hl hZ
      have ha : a = 2 ^ T.length := by omega
      subst ha
      have hh := h1
      obtain ⟨p1, p2, p26, p3, ⟨ft, p4, p5⟩, ⟨fl, fs, fc, p6, p7, p8, p9⟩, ⟨fr, p10⟩, -⟩ := hh
      refine lv_iload_n hF.1 hF.2.1 d_M_drops_18 rfl (lv_at hl 0 rfl) ?_
      refine lv_iconst (v := (nI (1))) hF.1 hF.2.1 d_M_drops_19 (by decide) ?_
      refine lv_aload_n hF.1 hF.2.1 d_M_drops_20 rfl (lv_at hl 2 rfl) ?_
      refine gf_M_29 hF hZ (104) (by omega) p1 rfl d_M_drops_21 ?_
      refine lv_ishl hF.1 hF.2.1 d_M_drops_24 ?_
      refine z_top (y := (nI (2 ^ T.length))) (sh_1 (by omega)) ?_
      refine lv_icmp_ge (tgt := 116) hF.1 hF.2.1 d_M_drops_25 (by decide) (fun _ => ?_) (fun h => absurd (nI_le (Nat.le_refl _) (by omega)) h)
      refine lv_iload_n hF.1 hF.2.1 d_M_drops_116 rfl (lv_at hl 1 rfl) ?_
      exact z_iret hF hr hlocks hZ rfl ⟨h1, hfr, by rw [dr_S_all, hrr]; rfl⟩ d_M_drops_117
    | succ n ih =>
      intro a en1 fj H locs ls hin hfr h1 e110 hf hl hZ
      have hub : (dr_u (dr_S T T.length rr a)).length ≤ 252 := by
        have z1 := dr_u_le (dr_S T T.length rr a)
        have z2 := dr_S_mono T T.length rr (a := a) (n + 1)
        rw [hin, dr_S_all] at z2
        omega
      have hss := dr_S_s T T.length rr a
      have hh := h1
      obtain ⟨p1, p2, p26, p3, ⟨ft, p4, p5⟩, ⟨fl, fs, fc, p6, p7, p8, p9⟩, ⟨fr, p10⟩, -⟩ := hh
      refine lv_iload_n hF.1 hF.2.1 d_M_drops_18 rfl (lv_at hl 0 rfl) ?_
      refine lv_iconst (v := (nI (1))) hF.1 hF.2.1 d_M_drops_19 (by decide) ?_
      refine lv_aload_n hF.1 hF.2.1 d_M_drops_20 rfl (lv_at hl 2 rfl) ?_
      refine gf_M_29 hF hZ (104) (by omega) p1 rfl d_M_drops_21 ?_
      refine lv_ishl hF.1 hF.2.1 d_M_drops_24 ?_
      refine z_top (y := (nI (2 ^ T.length))) (sh_1 (by omega)) ?_
      refine lv_icmp_ge (tgt := 116) hF.1 hF.2.1 d_M_drops_25 (by decide) (fun h => absurd h (nI_ge (show a < 2 ^ T.length by omega) (by omega))) (fun _ => ?_)
      refine lv_iload_n hF.1 hF.2.1 d_M_drops_28 rfl (lv_at hl 0 rfl) ?_
      refine z_calli hZ (z_runS (n := 1) cd_M_bits ml_M_78 in_M sm_M_bits (by decide +kernel) hF hZ (c_M_bits l (a := a) (by omega)) (by decide) rfl hl.1 rfl (Nat.le_of_ble_eq_true rfl) d_M_drops_29) (fun v enq H locs hp hZ => ?_)
      obtain ⟨he, hv⟩ := hp
      subst hv
      have hZ := hZ.to he
      have hb10 : dr_b 10 a = dr_b T.length a := by
        have := dr_b_lo (e := T.length) (s := a) (by omega) (10 - T.length)
        rw [show T.length + (10 - T.length) = 10 by omega] at this
        exact this
      refine z_top (y := (nI (dr_b T.length a))) (by rw [hb10]) ?_
      have hbl : dr_b T.length a ≤ 10 := by
        rw [← hb10]
        simp only [dr_b]
        omega
      refine lv_aload_n hF.1 hF.2.1 d_M_drops_32 rfl (lv_at hl 2 rfl) ?_
      refine gf_M_29 hF hZ (104) (by omega) p1 rfl d_M_drops_33 ?_
      refine lv_iload_n hF.1 hF.2.1 d_M_drops_36 rfl (lv_at hl 3 rfl) ?_
      refine lv_isub hF.1 hF.2.1 d_M_drops_37 ?_
      refine z_top (y := (nI (rr))) ((pk_sub hj).trans (by rw [hrr])) ?_
      refine lv_icmp_eq (tgt := 44) hF.1 hF.2.1 d_M_drops_38 (by decide) (fun q => ?_) (fun q => ?_)
      · have q := (nI_eq (by omega) (by omega)).mp q
        rw [if_pos q] at hss
        refine lv_aload_n hF.1 hF.2.1 d_M_drops_44 rfl (lv_at hl 2 rfl) ?_
        refine lv_iload_n hF.1 hF.2.1 d_M_drops_45 rfl (lv_at hl 0 rfl) ?_
        refine z_calll hZ (z_run cw_M_81 hF hZ (104) (c_M_left l hN h1 (a := a) (by omega)) (by decide) (by omega) p1 rfl rfl hl.1 rfl (Nat.le_of_ble_eq_true rfl) d_M_drops_46) (fun v enq H locs hp hZ => ?_)
        obtain ⟨he, hv⟩ := hp
        subst hv
        have hZ := hZ.to he
        refine lv_lstore hF.1 hF.2.1 d_M_drops_49 hl (by decide) rfl (fun ls hl => ?_)
        have hl : lv_has ls 8 [(4, .long (lN (dr_c T T.length a))), (3, .int (nI (a))), (2, .int (nI ((dr_u (dr_S T T.length rr a)).length))), (0, .ref (ad (104))), (1, .int (nI (j)))] := hl
        refine lv_iconst (v := (nI (0))) hF.1 hF.2.1 d_M_drops_51 (by decide) ?_
        refine lv_istore hF.1 hF.2.1 d_M_drops_52 hl (by decide) rfl (fun ls hl => ?_)
        have hl : lv_has ls 8 [(6, .int (nI (0))), (4, .long (lN (dr_c T T.length a))), (3, .int (nI (a))), (2, .int (nI ((dr_u (dr_S T T.length rr a)).length))), (0, .ref (ad (104))), (1, .int (nI (j)))] := hl
        refine lv_iconst (v := (nI (0))) hF.1 hF.2.1 d_M_drops_54 (by decide) ?_
        refine lv_istore hF.1 hF.2.1 d_M_drops_55 hl (by decide) rfl (fun ls hl => ?_)
        have hl : lv_has ls 8 [(7, .int (nI (0))), (6, .int (nI (0))), (4, .long (lN (dr_c T T.length a))), (3, .int (nI (a))), (2, .int (nI ((dr_u (dr_S T T.length rr a)).length))), (0, .ref (ad (104))), (1, .int (nI (j)))] := hl
        have hxl : dr_c T T.length a < 32 ^ T.length := dr_c_lt T p26 a _
        refine inner (dr_u (dr_S T T.length rr a)).length 0 a (dr_c T T.length a) (dr_u (dr_S T T.length rr a)) en1 fj H locs ls (by omega) hub (by omega) (fun y hy => Nat.lt_trans (dr_S_lt p26 ((dr_u_mem _ _).mp hy)) hp32) hfr h1 e110 hf (fun H locs ls hl hZ => ?_) (by rw [List.take_zero]; exact lv_sub hl [0, 1, 2, 3, 4, 5, 6] rfl) hZ
        have hl : lv_has ls 8 [(7, .int (nI ((dr_u (dr_S T T.length rr a)).length))), (6, .int (bI (decide (dr_c T T.length a ∈ dr_u (dr_S T T.length rr a))))), (4, .long (lN (dr_c T T.length a))), (3, .int (nI (a))), (2, .int (nI ((dr_u (dr_S T T.length rr a)).length))), (0, .ref (ad (104))), (1, .int (nI (j)))] := hl
        refine lv_iload hF.1 hF.2.1 d_M_drops_94 (lv_at hl 1 rfl) ?_
        refine lv_if_ne (tgt := 110) hF.1 hF.2.1 d_M_drops_96 (by decide) (fun z => ?_) (fun z => ?_)
        · have z := of_decide_eq_true (bI_1 z)
          have hnu : dr_u (dr_S T T.length rr (a + 1)) = dr_u (dr_S T T.length rr a) := by rw [hss, dr_u_step]; unfold dr_ad; rw [if_pos z]
          refine lv_iinc (k := 3) (v := (nI (a + 1))) hF.1 hF.2.1 d_M_drops_110 hl rfl (iinc_p (a)) (by decide) rfl (fun ls hl => ?_)
          have hl : lv_has ls 8 [(3, .int (nI (a + 1))), (7, .int (nI ((dr_u (dr_S T T.length rr a)).length))), (6, .int (bI (decide (dr_c T T.length a ∈ dr_u (dr_S T T.length rr a))))), (4, .long (lN (dr_c T T.length a))), (2, .int (nI ((dr_u (dr_S T T.length rr a)).length))), (0, .ref (ad (104))), (1, .int (nI (j)))] := hl
          refine lv_goto (tgt := 18) hF.1 hF.2.1 d_M_drops_113 (by decide) ?_
          exact ih (a + 1) en1 fj H locs ls (by omega) hfr h1 e110 (by rw [hnu]; exact hf) (by rw [hnu]; exact lv_sub hl [0, 4, 5, 6] rfl) hZ
        · have z := of_decide_eq_false (bI_0.mp z)
          have hnu : dr_u (dr_S T T.length rr (a + 1)) = dr_u (dr_S T T.length rr a) ++ [dr_c T T.length a] := by rw [hss, dr_u_step]; unfold dr_ad; rw [if_neg z]
          have hlt : (dr_u (dr_S T T.length rr a)).length < 252 := by
            have z1 := dr_u_le (dr_S T T.length rr (a + 1))
            have z2 := dr_S_mono T T.length rr (a := a + 1) n
            rw [show a + 1 + n = 2 ^ T.length by omega, dr_S_all] at z2
            rw [hnu, List.length_append, List.length_singleton] at z1
            omega
          refine lv_aload_n hF.1 hF.2.1 d_M_drops_99 rfl (lv_at hl 5 rfl) ?_
          refine gf_M_25 hF hZ (104) (by omega) p1 rfl d_M_drops_100 ?_
          refine lv_iload_n hF.1 hF.2.1 d_M_drops_103 rfl (lv_at hl 4 rfl) ?_
          refine lv_lload hF.1 hF.2.1 d_M_drops_104 (lv_at hl 2 rfl) ?_
          refine z_last hF hZ (110) (by omega) e110 ((dr_u (dr_S T T.length rr a)).length) (by omega) (by omega) d_M_drops_106 (fun H locs hZ => ?_)
          obtain ⟨ze1, hn2⟩ : ∃ z, z = va_up en1 (110) (.inl (zJ G, 252, .inr (.inl (vp_updL (fj) ((dr_u (dr_S T T.length rr a)).length) (lN (dr_c T T.length a)))))) := ⟨_, rfl⟩
          have hZ : zH G ad ze1 N s H locs := hZ.to hn2.symm
          have ff3 : ze1 (104) = .inr (kM, [.ref (ad (105)), .int (nI (T.length)), .ref (ad (106)), .ref (ad (107)), .ref (ad (108)), .int (nI (mw.length)), .ref (ad (109)), .ref (ad (110))]) := by rw [hn2, va_up_ne _ _ (by omega)]; exact p1
          have ff4 : ze1 (105) = .inl (zI G, 10, .inl (ft)) := by rw [hn2, va_up_ne _ _ (by omega)]; exact p4
          have ff5 : ze1 (106) = .inl (zI G, 192, .inl (fl)) := by rw [hn2, va_up_ne _ _ (by omega)]; exact p6
          have ff6 : ze1 (107) = .inl (zI G, 24, .inl (fs)) := by rw [hn2, va_up_ne _ _ (by omega)]; exact p7
          have ff7 : ze1 (108) = .inl (zI G, 24, .inl (fc)) := by rw [hn2, va_up_ne _ _ (by omega)]; exact p8
          have ff8 : ze1 (109) = .inl (zI G, 99, .inl (fr)) := by rw [hn2, va_up_ne _ _ (by omega)]; exact p10
          have ff9 : ze1 (110) = .inl (zJ G, 252, .inr (.inl (vp_updL (fj) ((dr_u (dr_S T T.length rr a)).length) (lN (dr_c T T.length a))))) := by rw [hn2]; exact va_up_self _ _ _
          refine lv_iinc (k := 4) (v := (nI ((dr_u (dr_S T T.length rr a)).length + 1))) hF.1 hF.2.1 d_M_drops_107 hl rfl (iinc_p ((dr_u (dr_S T T.length rr a)).length)) (by decide) rfl (fun ls hl => ?_)
          have hl : lv_has ls 8 [(2, .int (nI ((dr_u (dr_S T T.length rr a)).length + 1))), (7, .int (nI ((dr_u (dr_S T T.length rr a)).length))), (6, .int (bI (decide (dr_c T T.length a ∈ dr_u (dr_S T T.length rr a))))), (4, .long (lN (dr_c T T.length a))), (3, .int (nI (a))), (0, .ref (ad (104))), (1, .int (nI (j)))] := hl
          refine lv_iinc (k := 4) (v := (nI (a + 1))) hF.1 hF.2.1 d_M_drops_110 hl rfl (iinc_p (a)) (by decide) rfl (fun ls hl => ?_)
          have hl : lv_has ls 8 [(3, .int (nI (a + 1))), (2, .int (nI ((dr_u (dr_S T T.length rr a)).length + 1))), (7, .int (nI ((dr_u (dr_S T T.length rr a)).length))), (6, .int (bI (decide (dr_c T T.length a ∈ dr_u (dr_S T T.length rr a))))), (4, .long (lN (dr_c T T.length a))), (0, .ref (ad (104))), (1, .int (nI (j)))] := hl
          refine lv_goto (tgt := 18) hF.1 hF.2.1 d_M_drops_113 (by decide) ?_
          refine ih (a + 1) ze1 _ H locs ls (by omega) (fun r hr => by rw [hn2, va_up_ne _ _ hr]; exact hfr r hr) (h1.k110 ff9 (fun r hr => by rw [hn2, va_up_ne _ _ hr])) ff9 (fun i hi => ?_) (by rw [hnu, List.length_append]; exact lv_sub hl [0, 1, 5, 6] rfl) hZ
          rw [hnu] at hi ⊢
          by_cases e : i = (dr_u (dr_S T T.length rr a)).length
          · rw [e, pk_uLs, getD_app_e]
          · rw [List.length_append, List.length_singleton] at hi
            rw [pk_uLn e, getD_app_l (by omega)]
            exact hf i (by omega)
      · have q : ¬ dr_b T.length a = rr := fun z => q (by rw [z])
        rw [if_neg q] at hss
        refine lv_goto (tgt := 110) hF.1 hF.2.1 d_M_drops_41 (by decide) ?_
        refine lv_iinc (k := 0) (v := (nI (a + 1))) hF.1 hF.2.1 d_M_drops_110 hl rfl (iinc_p (a)) (by decide) rfl (fun ls hl => ?_)
        have hl : lv_has ls 8 [(3, .int (nI (a + 1))), (2, .int (nI ((dr_u (dr_S T T.length rr a)).length))), (0, .ref (ad (104))), (1, .int (nI (j)))] := hl
        refine lv_goto (tgt := 18) hF.1 hF.2.1 d_M_drops_113 (by decide) ?_
        exact ih (a + 1) en1 fj H locs ls (by omega) hfr h1 e110 (by rw [hss]; exact hf) (by rw [hss]; exact lv_sub hl [0, 1, 2, 3] rfl) hZ
  have hh := h
  obtain ⟨p1, -, -, -, -, -, -, fj, p11⟩ := hh
  refine lv_iload_n hF.1 hF.2.1 d_M_drops_0 rfl (lv_at hl 1 rfl) ?_
  refine lv_if_lt (tgt := 12) hF.1 hF.2.1 d_M_drops_1 (by decide) (fun h => absurd h (nI_pos (by omega))) (fun _ => ?_)
  refine lv_iload_n hF.1 hF.2.1 d_M_drops_4 rfl (lv_at hl 1 rfl) ?_
  refine lv_aload_n hF.1 hF.2.1 d_M_drops_5 rfl (lv_at hl 0 rfl) ?_
  refine gf_M_29 hF hZ (104) (by omega) p1 rfl d_M_drops_6 ?_
  refine lv_icmp_le (tgt := 14) hF.1 hF.2.1 d_M_drops_9 (by decide) (fun _ => ?_) (fun h => absurd (nI_le hj (by omega)) h)
  refine lv_iconst (v := (nI (0))) hF.1 hF.2.1 d_M_drops_14 (by decide) ?_
  refine lv_istore_n hF.1 hF.2.1 d_M_drops_15 rfl hl (by decide) rfl (fun ls hl => ?_)
  have hl : lv_has ls 8 [(2, .int (nI (0))), (0, .ref (ad (104))), (1, .int (nI (j)))] := hl
  refine lv_iconst (v := (nI (0))) hF.1 hF.2.1 d_M_drops_16 (by decide) ?_
  refine lv_istore_n hF.1 hF.2.1 d_M_drops_17 rfl hl (by decide) rfl (fun ls hl => ?_)
  have hl : lv_has ls 8 [(3, .int (nI (0))), (2, .int (nI (0))), (0, .ref (ad (104))), (1, .int (nI (j)))] := hl
  exact outer (2 ^ T.length) 0 en fj _ _ ls (by omega) (fun _ _ => rfl) h p11 (fun i hi => absurd hi (Nat.not_lt_zero _)) hl hZ
