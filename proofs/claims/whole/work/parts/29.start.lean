/-! THE CLAIM OUT OF ONE WALK OF THE LAW'S BODY. Your part is whole_start (and what it stands on); all else here is the same for every law, but numbers. -/
def R_law : String := "SpellDeskLaw"
def lw_P (b : Addr) (xs : List Int32) (args : Array Value) (s : State) : Prop := args = #[.ref b] ∧ s.IntsAt b xs ∧ xs.length ≤ 1536 ∧ (Jvm.Cond.and given_1 narrow_1).before args s = true
def lw_Q (_ : Array Value) (s : State) (o : Outcome) (t : State) : Prop := o = .returned (some (.int 1)) ∧ Framed s o t [] 600000 7302250
def lw_Z (below : List Frame) (a : Array Value) (s : State) : State → Prop := fun t => ∃ o, t.status = .running ∧ Ended t below o ∧ lw_Q a s o t
/-- the law's own end, with 1 on the stack, nothing written that was there before, its room as the claim has it -/
theorem lw_ret {p : Program} {l : Launch} {e : Env} {s : State} {m : MethodId} {below : List Frame} {meth : Method} {c : Code} {b : Nat} (hx : p.tables.exec = Jvm.exec) (hb : c.code = code) (hr : meth.sig.returnType = ret) (hlocks : meth.locks = false) {pc : Nat} {H : Heap} {ls : Array Slot} (hdg : decode code pc = .ok (.ireturn, 1)) : W p l e room_1 s m #[Value.ref b] below meth c H [] 600000 7302250 (lw_Z below #[Value.ref b] s) (F0 m pc ls [.int 1]) := by
  intro T hT X
  obtain ⟨fs, hret, hrun, hended, hW, hframe⟩ := X.leave (v := some (.int 1)) (hlocks := hlocks) (fun h => by rw [hr] at h; cases h)
  have hmeth' : T.vm.method? m = some meth := X.method'
  refine ⟨T.setFrames fs, ?_, .returned (some (.int 1)), hrun, hended, rfl, ⟨_, rfl⟩, hW, hframe⟩
  jvm_step X.here [X.here.top, hx, hb, hdg, hmeth', hr, ret, narrow_b1]
  (try refine ⟨rfl, ?_⟩); (try refine ⟨rfl, ?_⟩)
  first | (intro acts; rw [hret _ acts rfl rfl rfl]) | rw [hret _ _ rfl rfl rfl]
  exact Steps.refl _
/-- what holds at the law's entry: the machine, the code, the tables' words (any of lw_tbl by 'hts w (by decide +kernel)'), the script of L ints xs at the cell b, what the Statement gives of the start (any of its parts by flat_of_before) -/
def lw_At (p : Program) (s : State) (m : MethodId) (meth : Method) (c : Code) (b L : Nat) (xs : Nat → Int32) : Prop :=
  p.tables.exec = Jvm.exec ∧ c.code = code ∧ meth.sig.returnType = ret ∧ c.maxLocals = 4 ∧ s.vm.findClass R_law = some m.cls ∧ (∀ w ∈ lw_tbl, w.before #[Value.ref b] s = true) ∧ va_X b L xs s s.heap ∧ b < s.heap.size ∧ meth.locks = false ∧ (Jvm.Cond.and given_1 narrow_1).before #[Value.ref b] s = true

theorem z_sld {p : Program} {l : Launch} {e : Env} {R : Room} {s : State} {m : MethodId} {args : Array Value} {below : List Frame} {meth : Method} {c : Code} {H : Heap} {locs : List Loc} {cells slots : Nat} {Q : State → Prop} {cc : ByteArray} {pc nL : Nat} {ls : Array Slot} {rest : List Value} {G : zG} {ad : Nat → Nat} {en : Nat → va_E} {N : Nat} {own : String} {b L : Nat} {xs : Nat → Int32}
    (hF : CallFix p m c cc nL s args zz own) (hX : va_X b L xs s s.heap) (hbl : b < s.heap.size) (hG : zb G = s.heap.size) (hL : L ≤ 1536) (hZ : zH G ad en N s H locs) (j : Nat) (hj : j < L) (hdg : decode cc pc = .ok (.iaload, 1))
    (kk : W p l e R s m args below meth c H locs cells slots Q (F0 m (pc + 1) ls (.int (xs j) :: rest))) : W p l e R s m args below meth c H locs cells slots Q (F0 m pc ls (.int (nI j) :: .ref b :: rest)) := by
  refine va_sld (A := zA G) hF.1 hF.2.1 hX hbl (by show ¬ zb G ≤ b; omega) hZ.2.1 (vp_in_nI hj (by omega)) hdg ?_
  rw [nI_clamp (by omega)]
  exact kk
theorem z_slen {p : Program} {l : Launch} {e : Env} {R : Room} {s : State} {m : MethodId} {args : Array Value} {below : List Frame} {meth : Method} {c : Code} {H : Heap} {locs : List Loc} {cells slots : Nat} {Q : State → Prop} {cc : ByteArray} {pc nL : Nat} {ls : Array Slot} {rest : List Value} {G : zG} {ad : Nat → Nat} {en : Nat → va_E} {N : Nat} {own : String} {b L : Nat} {xs : Nat → Int32}
    (hF : CallFix p m c cc nL s args zz own) (hX : va_X b L xs s s.heap) (hbl : b < s.heap.size) (hG : zb G = s.heap.size) (hZ : zH G ad en N s H locs) (hdg : decode cc pc = .ok (.arraylength, 1))
    (kk : W p l e R s m args below meth c H locs cells slots Q (F0 m (pc + 1) ls (.int (nI L) :: rest))) : W p l e R s m args below meth c H locs cells slots Q (F0 m pc ls (.ref b :: rest)) :=
  va_slen (A := zA G) hF.1 hF.2.1 hX hbl (by show ¬ zb G ≤ b; omega) hZ.2.1 hdg kk
set_option maxRecDepth 100000 in
/-- the tables' words give the start: no role yet -/
theorem z_start {args : Array Value} {s : State} (hts : ∀ w ∈ lw_tbl, w.before args s = true) : ∃ G : zG, zb G = s.heap.size ∧ ∀ en, zH G (adG G) en 0 s s.heap [] := by
  obtain ⟨c0, i0, k0⟩ := u_known (ws := lw_tbl) (C := R_L) (T := F_L) (N := 2) hts (fun w h => zz_sub (u_L w h)) (hts _ (zz_sub ib_L))
  obtain ⟨c1, i1, k1⟩ := u_known (ws := lw_tbl) (C := R_W) (T := F_W) (N := 2) hts (fun w h => zz_sub (u_W w h)) (hts _ (zz_sub ib_W))
  obtain ⟨c2, i2, k2⟩ := u_known (ws := lw_tbl) (C := R_D) (T := F_D) (N := 2) hts (fun w h => zz_sub (u_D w h)) (hts _ (zz_sub ib_D))
  obtain ⟨c3, i3, k3⟩ := u_known (ws := lw_tbl) (C := R_E) (T := F_E) (N := 1) hts (fun w h => zz_sub (u_E w h)) (hts _ (zz_sub ib_E))
  obtain ⟨c4, i4, k4⟩ := u_known (ws := lw_tbl) (C := R_R) (T := F_R) (N := 1) hts (fun w h => zz_sub (u_R w h)) (hts _ (zz_sub ib_R))
  obtain ⟨c5, i5, k5⟩ := u_known (ws := lw_tbl) (C := R_S) (T := F_S) (N := 5) hts (fun w h => zz_sub (u_S w h)) (hts _ (zz_sub ib_S))
  obtain ⟨c6, i6, k6⟩ := u_known (ws := lw_tbl) (C := R_M) (T := F_M) (N := 8) hts (fun w h => zz_sub (u_M w h)) (hts _ (zz_sub ib_M))
  obtain ⟨cI, kI, eI, a1, a2, a3⟩ := Cond.arrayClass_spec (hts _ (zz_sub ac_int))
  obtain ⟨cJ, kJ, eJ, b1, b2, b3⟩ := Cond.arrayClass_spec (hts _ (zz_sub ac_long))
  have hAO : va_AO R_W s := va_AO.of (hts (Cond.arrayOver (.object R_W)) (List.mem_of_getElem? (i := 62) (by decide +kernel)))
  have hAA : (Cond.arrayOver (.array .int)).before args s = true := hts _ (List.mem_of_getElem? (i := 94) (by decide +kernel))
  obtain ⟨eO, cO, kO, o1, -, o2, o3, o4⟩ := Cond.arrayOver_spec hAO
  obtain ⟨eM, cM, kM_, m1, -, m2, m3, m4⟩ := arrayOverA_spec hAA
  refine ⟨((fun c => match c with
    | 0 => c0 | 1 => c1 | 2 => c2 | 3 => c3 | 4 => c4 | 5 => c5 | _ => c6, fun c => match c with
    | 0 => i0 | 1 => i1 | 2 => i2 | 3 => i3 | 4 => i4 | 5 => i5 | _ => i6), s.heap.size, cI, cJ, cO, cM), rfl, fun en => ⟨⟨⟨fun c q hq => ?_, fun k q hq => ?_⟩, fun k q hk => absurd (zl_inv hk).1 (Nat.not_lt_zero _), zD, Nat.le_refl _⟩, va_S.rf, Nat.le_refl _, fun w hw => ?_, hAO, over_moved (Vm.Alike.refl _) hAA⟩⟩
  · match c, hq with
    | 0, hq => cases hq; exact k0
    | 1, hq => cases hq; exact k1
    | 2, hq => cases hq; exact k2
    | 3, hq => cases hq; exact k3
    | 4, hq => cases hq; exact k4
    | 5, hq => cases hq; exact k5
    | 6, hq => cases hq; exact k6
    | n + 7, hq => cases hq
  · match k, hq with
    | 0, hq => cases hq; exact ⟨fun n z => ⟨fun k h => (by cases h), kI, a2, eI, a3⟩, a1⟩
    | 1, hq => cases hq; exact ⟨fun n z => ⟨fun k h => (by cases h), kJ, b2, eJ, b3⟩, b1⟩
    | 2, hq => cases hq; exact ⟨fun n z => ⟨fun k h => (by cases h), kO, o2, eO, o3⟩, kO, eO, o2, o3, o1, o4⟩
    | 3, hq => cases hq; exact ⟨fun n z => ⟨fun k h => (by cases h), kM_, m2, eM, m3⟩, m4⟩
    | n + 4, hq => cases hq
  · have h1 := hts w (zn_in w hw)
    have hon : w.onTables = true := by
      unfold zn at hw
      simp only [List.mem_cons, List.not_mem_nil, or_false] at hw
      rcases hw with rfl | rfl | rfl | rfl | rfl | rfl <;> rfl
    exact va_Nw.of hon h1
