/-! making: role k lies at address zb G + k; a new cell is the next role -/
abbrev adG (G : zG) : Nat → Nat := fun k => zb G + k
theorem zl_inv {ad : Nat → Nat} {en : Nat → va_E} {N k : Nat} {q : Nat × va_E} (h : (zl ad en N)[k]? = some q) : k < N ∧ q = (ad k, en k) := by
  have hk : k < N := by
    have := (List.getElem?_eq_some_iff.mp h).1
    simpa [zl] using this
  rw [zl_get hk] at h
  exact ⟨hk, (Option.some.inj h).symm⟩
theorem zD {G : zG} {en : Nat → va_E} {N : Nat} : va_D (zA G) (zl (adG G) en N) := by
  refine ⟨fun i j p q hi hj hpq => ?_, fun k q hq => ?_⟩
  · obtain ⟨-, rfl⟩ := zl_inv hi
    obtain ⟨-, rfl⟩ := zl_inv hj
    have hpq : zb G + i = zb G + j := hpq
    omega
  · obtain ⟨-, rfl⟩ := zl_inv hq
    show zb G ≤ zb G + k
    omega
theorem zlow {G : zG} {en : Nat → va_E} {N : Nat} {s : State} {H : Heap} {locs : List Loc} (h : zH G (adG G) en N s H locs) : zb G + N ≤ H.size := by
  cases N with
  | zero => exact h.1.2.2.2
  | succ n =>
    have := (h.1.2.1 n _ (zl_get (Nat.lt_succ_self n))).lt
    have this : zb G + n < H.size := this
    omega
/-- the heap has grown by new roles: n of them -/
theorem zH.grow {G : zG} {en en1 : Nat → va_E} {N n : Nat} {s : State} {H H1 : Heap} {locs : List Loc} (h : zH G (adG G) en N s H locs) (hs : H.size = zb G + N) (z : H1.size = H.size + n) (o : ∀ q : Nat, q < H.size → H1[q]? = H[q]?) (he : ∀ k, k < N → en1 k = en k) (ha : ∀ i, i < n → va_at G.1 classes (zb G + (N + i), en1 (N + i)) H1) : zH G (adG G) en1 (N + n) s H1 locs := by
  obtain ⟨⟨hK, hP, hD, hz⟩, hS, hz0⟩ := h
  refine ⟨⟨hK, fun k q hq => ?_, zD, by omega⟩, ⟨by have := hS.1; omega, fun q h1 h2 => (o q (by have := hS.1; omega)).trans (hS.2.1 q h1 h2), hS.2.2⟩, hz0⟩
  obtain ⟨hk, rfl⟩ := zl_inv hq
  by_cases hkN : k < N
  · rw [he k hkN]
    exact (hP k _ (zl_get hkN)).kept (o _ (by show zb G + k < H.size; omega))
  · have := ha (k - N) (by omega)
    rw [show N + (k - N) = k by omega] at this
    exact this
def zPn (G : zG) (en : Nat → va_E) (N : Nat) (as : List Value) : Array Value → State → Prop := va_Pc as (fun U => zW G (adG G) en N U U.heap ∧ zX U ∧ U.heap.size = zb G + N)
abbrev zMc (l : Launch) (y : MethodName) (b : ByteArray) (nn d mc ms : Nat) (G : zG) (en : Nat → va_E) (N : Nat) (as : List Value) (N1 : Nat) (post : (Nat → va_E) → Prop) : Prop := Met l y (.code y b nn none :: zz) (zRn d mc ms) (zPn G en N as) (zQv G (adG G) N1 post) mc ms (zA G)
theorem zPn.blind {G : zG} {en : Nat → va_E} {N : Nat} {as : List Value} : FrameBlind (zPn G en N as) := fun a U g mk q => ⟨q.1, q.2.1.moved (u := U) (U := U.calling g mk a) (Vm.Alike.refl U.vm), q.2.2.1.same (s := U) (U := U.calling g mk a) rfl, q.2.2.2⟩
theorem z_outer (c : ClassId) (N h0 : Nat) : ∀ i : Nat, Jvm.Free.Multi.outerC c N h0 i = arrV c N (fun j => va_rf (if j < i then some (h0 + 1 + j) else none))
  | 0 => by
    show ({ cls := c, slots := Array.replicate N .null, vm := .none } : Cell) = _
    rw [arrV_new]
    refine congrArg (arrV c N) (funext fun j => ?_)
    rw [if_neg (Nat.not_lt_zero j)]
    rfl
  | i + 1 => by
    show (Jvm.Free.Multi.outerC c N h0 i).setSlot i (.ref (h0 + 1 + i)) = _
    rw [z_outer c N h0 i, arrV_store]
    refine congrArg (arrV c N) (funext fun j => ?_)
    by_cases e : j = i
    · subst e
      simp [updV, va_rf]
    · by_cases h : j < i
      · simp [updV, e, h, Nat.lt_succ_of_lt h]
      · simp [updV, e, h, show ¬ j < i + 1 by omega]
section ZC
variable {p : Program} {l : Launch} {e : Env} {R : Room} {s : State} {m : MethodId} {args : Array Value} {below : List Frame} {meth : Method} {c : Code} {H : Heap} {locs : List Loc} {cells slots : Nat} {Q : State → Prop}
variable {cc : ByteArray} {pc nL index : Nat} {ls : Array Slot} {rest st0 : List Value} {G : zG} {en : Nat → va_E} {N : Nat} {own : String}
theorem z_size {g : JFrame} (k : H.size ≤ s.heap.size + cells → W p l e R s m args below meth c H locs cells slots Q g) : W p l e R s m args below meth c H locs cells slots Q g := fun T hT X => k (by have h : T.heap.size ≤ s.heap.size + cells := X.same.2.2.1; rw [hT] at h; exact h) T hT X
theorem z_new {C : String} {T : u_T} {n ci : Nat} {fs : List Value} (ty : Nat → FieldType) (hin : ∀ w ∈ u_ws C T n, w ∈ zz) (hty : ∀ k, k < n → parseFieldDescriptor (T k).2.2.1 = some (ty k)) (hc : classes[ci]? = some (C, T, n)) (h1 : Cond.classLink own index C ∈ zz) (h2 : Cond.instantiable C n ∈ zz) (h3 : Cond.initialized C ∈ zz) (hfs : ∀ j, j < n → defaultValue (ty j) = vp_V fs j)
    (hF : CallFix p m c cc nL s args zz own) (hZ : zH G (adG G) en N s H locs) (hs0 : s.heap.size + cells = zb G + N) (hcells : cells + 1 ≤ R.cells) (hslots : slots + n ≤ R.slots) (hdg : decode cc pc = .ok (.new index, 3))
    (kk : ∀ H1 : Heap, zH G (adG G) (va_up en N (.inr (ci, fs))) (N + 1) s H1 locs → W p l e R s m args below meth c H1 locs (cells + 1) (slots + n) Q (F0 m (pc + 3) ls (.ref (zb G + N) :: rest))) : W p l e R s m args below meth c H locs cells slots Q (F0 m pc ls rest) := by
  refine z_size (fun hle => ?_)
  have hsz : H.size = zb G + N := by have := zlow hZ; omega
  obtain ⟨hx, hb, -, hown, hts⟩ := hF
  have hKn := hZ.1.1.1 ci _ hc
  refine W.newcK hx hb hown (hts _ h1) (hts _ h2) (hts _ h3) rfl hdg hcells hslots hKn.2.1 hsz fun H1 kC hkC e1 z1 o1 => ?_
  refine kk H1 (hZ.grow (n := 1) hsz (by omega) (fun q hq => o1 q (by omega)) (fun k hk => va_up_ne _ _ (by omega)) (fun i hi => ?_))
  have hi0 : i = 0 := by omega
  subst hi0
  rw [Nat.add_zero, va_up_self]
  exact ⟨_, hc, (u_born ty hts hin hKn hkC e1 hty).to hfs⟩
theorem z_newi {n : Nat} (hF : CallFix p m c cc nL s args zz own) (hZ : zH G (adG G) en N s H locs) (hs0 : s.heap.size + cells = zb G + N) (hn : n < 1000) (hcells : cells + 1 ≤ R.cells) (hslots : slots + n ≤ R.slots) (hdg : decode cc pc = .ok (.newarray .int, 2))
    (kk : ∀ H1 : Heap, zH G (adG G) (va_up en N (.inl (zI G, n, .inl (fun _ => 0)))) (N + 1) s H1 locs → W p l e R s m args below meth c H1 locs (cells + 1) (slots + n) Q (F0 m (pc + 2) ls (.ref (zb G + N) :: rest))) : W p l e R s m args below meth c H locs cells slots Q (F0 m pc ls (.int (nI n) :: rest)) := by
  refine z_size (fun hle => ?_)
  have hsz : H.size = zb G + N := by have := zlow hZ; omega
  refine va_newaK hF.1 hF.2.1 (atype := .int) (hF.2.2.2.2 _ ac_int) rfl hdg rfl (nI_pos (by omega)) (nI_clamp (by omega)) (by show n * 4 ≤ 536870912; omega) hcells hslots hsz fun H1 cA e1 z1 o1 hAr hNm => ?_
  have hcA : cA = zI G := by
    have h0 : s.vm.findClass ("[" ++ FieldType.int.toString) = some (zI G) := (hZ.1.1.2 0 _ rfl).2
    exact Option.some.inj (hNm.symm.trans h0)
  subst hcA
  refine kk H1 (hZ.grow (n := 1) hsz (by omega) (fun q hq => o1 q (by omega)) (fun k hk => va_up_ne _ _ (by omega)) (fun i hi => ?_))
  have hi0 : i = 0 := by omega
  subst hi0
  rw [Nat.add_zero, va_up_self]
  exact e1
theorem z_newl {n : Nat} (hF : CallFix p m c cc nL s args zz own) (hZ : zH G (adG G) en N s H locs) (hs0 : s.heap.size + cells = zb G + N) (hn : n < 1000) (hcells : cells + 1 ≤ R.cells) (hslots : slots + n ≤ R.slots) (hdg : decode cc pc = .ok (.newarray .long, 2))
    (kk : ∀ H1 : Heap, zH G (adG G) (va_up en N (.inl (zJ G, n, .inr (.inl (fun _ => 0))))) (N + 1) s H1 locs → W p l e R s m args below meth c H1 locs (cells + 1) (slots + n) Q (F0 m (pc + 2) ls (.ref (zb G + N) :: rest))) : W p l e R s m args below meth c H locs cells slots Q (F0 m pc ls (.int (nI n) :: rest)) := by
  refine z_size (fun hle => ?_)
  have hsz : H.size = zb G + N := by have := zlow hZ; omega
  refine va_newaK hF.1 hF.2.1 (atype := .long) (hF.2.2.2.2 _ ac_long) rfl hdg rfl (nI_pos (by omega)) (nI_clamp (by omega)) (by show n * 8 ≤ 536870912; omega) hcells hslots hsz fun H1 cA e1 z1 o1 hAr hNm => ?_
  have hcA : cA = zJ G := by
    have h0 : s.vm.findClass ("[" ++ FieldType.long.toString) = some (zJ G) := (hZ.1.1.2 1 _ rfl).2
    exact Option.some.inj (hNm.symm.trans h0)
  subst hcA
  refine kk H1 (hZ.grow (n := 1) hsz (by omega) (fun q hq => o1 q (by omega)) (fun k hk => va_up_ne _ _ (by omega)) (fun i hi => ?_))
  have hi0 : i = 0 := by omega
  subst hi0
  rw [Nat.add_zero, va_up_self]
  exact e1
theorem z_newo {n : Nat} (h1 : Cond.classLink own index R_W ∈ zz) (hF : CallFix p m c cc nL s args zz own) (hZ : zH G (adG G) en N s H locs) (hs0 : s.heap.size + cells = zb G + N) (hn : n < 1000) (hcells : cells + 1 ≤ R.cells) (hslots : slots + n ≤ R.slots) (hdg : decode cc pc = .ok (.anewarray index, 3))
    (kk : ∀ H1 : Heap, zH G (adG G) (va_up en N (.inl (zO G, n, z_refs (fun _ => none)))) (N + 1) s H1 locs → W p l e R s m args below meth c H1 locs (cells + 1) (slots + n) Q (F0 m (pc + 3) ls (.ref (zb G + N) :: rest))) : W p l e R s m args below meth c H locs cells slots Q (F0 m pc ls (.int (nI n) :: rest)) := by
  refine z_size (fun hle => ?_)
  have hsz : H.size = zb G + N := by have := zlow hZ; omega
  have hcl : (nI n).toNatClampNeg = n := nI_clamp (by omega)
  refine W.anew hF.1 hF.2.1 hF.2.2.2.1 (hF.2.2.2.2 _ h1) (va_AO.use hZ.2.2.2.2.1) rfl hdg rfl (nI_pos (by omega)) (by rw [hcl]; omega) hcells (by rw [hcl]; exact hslots) fun cA kA comp f1 f2 f3 f4 => ?_
  rw [hcl]
  have hcA : cA = zO G := by
    obtain ⟨-, -, -, -, -, h0⟩ := (hZ.1.1.2 2 _ rfl).2
    exact Option.some.inj (f1.symm.trans h0)
  subst hcA
  rw [show (F0 m pc ls (.int (nI n) :: rest)).pc = pc from rfl, hsz]
  refine kk _ (hZ.grow (n := 1) hsz (by rw [Array.size_push]) (fun q hq => by rw [Array.getElem?_push, if_neg (Nat.ne_of_lt hq)]) (fun k hk => va_up_ne _ _ (by omega)) (fun i hi => ?_))
  have hi0 : i = 0 := by omega
  subst hi0
  rw [Nat.add_zero, va_up_self]
  show (H.push _)[zb G + N]? = some (vp_cell _ _)
  rw [← hsz, Array.getElem?_push_size, arrV_new, vp_cell_q]
  rfl
/-- new int[n][k] -/
def z_tab (G : zG) (en : Nat → va_E) (N n k : Nat) : Nat → va_E := fun r => if r = N then .inl (zM G, n, z_refs (fun i => if i < n then some (zb G + (N + 1 + i)) else none)) else if N < r ∧ r < N + 1 + n then .inl (zI G, k, .inl (fun _ => 0)) else en r
theorem z_multi {n k : Nat} (h1 : Cond.classLink own index "[[I" ∈ zz) (hF : CallFix p m c cc nL s args zz own) (hZ : zH G (adG G) en N s H locs) (hs0 : s.heap.size + cells = zb G + N) (hn : n < 1000) (hk : k < 1000) (hcells : cells + (1 + n) ≤ R.cells) (hslots : slots + (n + n * k) ≤ R.slots) (hdg : decode cc pc = .ok (.multianewarray index 2, 4))
    (kk : ∀ H1 : Heap, zH G (adG G) (z_tab G en N n k) (N + (1 + n)) s H1 locs → W p l e R s m args below meth c H1 locs (cells + 1 + n) (slots + n + n * k) Q (F0 m (pc + 4) ls (.ref (zb G + N) :: rest))) : W p l e R s m args below meth c H locs cells slots Q (F0 m pc ls (.int (nI k) :: .int (nI n) :: rest)) := by
  refine z_size (fun hle => ?_)
  have hsz : H.size = zb G + N := by have := zlow hZ; omega
  have hcn : (nI n).toNatClampNeg = n := nI_clamp (by omega)
  have hck : (nI k).toNatClampNeg = k := nI_clamp (by omega)
  intro T hT Xs
  obtain ⟨vm₁, cA, comp, -, fA, fC, hO, -, X', step⟩ := Xs.multianewarray2F hF.1 (ty := .int) hF.2.2.2.1 (hF.2.2.2.2 _ h1) (show (Cond.arrayOver (.array .int)).before args s = true from hZ.2.2.2.2.2) (hF.2.2.2.2 _ ac_int) (g := F0 m pc ls (.int (nI k) :: .int (nI n) :: rest)) rfl (by rw [hF.2.1]; exact hdg) rfl (nI_pos (by omega)) (nI_pos (by omega)) (by rw [hcn]; omega) (by rw [hck]; show k * 4 ≤ 536870912; omega) (by rw [hck]; omega) rfl rfl (by rw [hcn]; exact hcells) (by rw [hcn, hck]; exact hslots)
  have hcA : cA = zM G := by
    have h0 : s.vm.findClass ("[" ++ (FieldType.array .int).toString) = some (zM G) := (hZ.1.1.2 3 _ rfl).2
    exact Option.some.inj (fA.symm.trans h0)
  have hcC : comp = zI G := by
    have h0 : s.vm.findClass ("[" ++ FieldType.int.toString) = some (zI G) := (hZ.1.1.2 0 _ rfl).2
    exact Option.some.inj (fC.symm.trans h0)
  subst hcA
  subst hcC
  rw [hcn, hck] at X' step
  have hTh : (T.setVm vm₁).heap = H := hT
  obtain ⟨f1, f2, -, -⟩ := Jvm.Free.Multi.fill_facts (T.setVm vm₁) (zM G) (zI G) n k (defaultValue .int) n
  have hold := fun (x : Nat) (hx : x < H.size) => Jvm.Free.Multi.fill_old (T.setVm vm₁) (zM G) (zI G) n k (defaultValue .int) (a := x) (by rw [hTh]; exact hx) n
  have hrow := fun (j : Nat) (hj : j < n) => Jvm.Free.Multi.fill_inner (T.setVm vm₁) (zM G) (zI G) n k (defaultValue .int) n j hj
  generalize Jvm.Free.Multi.fill (T.setVm vm₁) (zM G) (zI G) n k (defaultValue .int) n = F at X' step f1 f2 hold hrow
  rw [hTh] at f1 f2 hrow
  have hout : Jvm.Free.Multi.outerC (zM G) n H.size n = arrV (zM G) n (fun i => va_rf (if i < n then some (zb G + (N + 1 + i)) else none)) := by
    rw [z_outer]
    refine congrArg (arrV (zM G) n) (funext fun j => ?_)
    rw [show H.size + 1 + j = zb G + (N + 1 + j) by omega]
  obtain ⟨t, a1, b1⟩ := kk F.heap (hZ.grow (n := 1 + n) hsz (by rw [f1]; omega) (fun q hq => by rw [hold q hq, hTh]) (fun r hr => by unfold z_tab; rw [if_neg (by omega), if_neg (by omega)]) (fun i hi => by
    unfold z_tab
    by_cases hi0 : i = 0
    · subst hi0
      rw [if_pos (show N + 0 = N from rfl)]
      show F.heap[zb G + (N + 0)]? = some (vp_cell _ _)
      rw [Nat.add_zero, ← hsz, f2, hout, vp_cell_q]
    · rw [if_neg (by omega), if_pos (by omega)]
      show F.heap[zb G + (N + i)]? = some (vp_cell _ _)
      have := hrow (i - 1) (by omega)
      rw [show H.size + 1 + (i - 1) = zb G + (N + i) by omega] at this
      rw [this, vp_cell_i]
      show some ({ cls := zI G, slots := Array.replicate k (.int 0), vm := .none } : Cell) = _
      rw [arrV_new])) F rfl X'
  refine ⟨t, step t ?_, b1⟩
  rw [show T.heap.size = zb G + N by rw [hT]; exact hsz]
  exact a1
theorem z_runI {y : MethodName} {b : ByteArray} {nn n d mc ms N1 : Nat} {As : List Value} {post : (Nat → va_E) → Prop} (c1 : Cond.code y b nn none ∈ zz) (c2 : Cond.methodLink own index y ∈ zz) (c3 : Cond.initialized y.cls ∈ zz) (c4 : Cond.instanceMethod y ∈ zz) (c5 : y.name = "<init>") (c6 : y.cls ≠ "java/lang/invoke/MethodHandle" ∧ y.cls ≠ "java/lang/invoke/VarHandle" ∧ (parseMethodDescriptor y.desc).map (fun d => d.parameters.length) = some n)
    (hF : CallFix p m c cc nL s args zz own) (hZ : zH G (adG G) en N s H locs) (hs0 : s.heap.size + cells = zb G + N) (k : Nat) (hM : zMc l y b nn d mc ms G en N (.ref (zb G + k) :: As) N1 post) (hR : d + 1 ≤ R.frames ∧ 8 + (nn + 11) + 40 * d ≤ R.locals) (hf : cells + mc ≤ R.cells ∧ slots + ms ≤ R.slots) (hn : As.length = n) (hsz : ls.size = nL) (hst : st0 = As.reverse ++ .ref (zb G + k) :: rest) (hrs : (rest.map fun v => v.category).sum ≤ 8) (hdg : decode cc pc = .ok (.invokespecial index, 3))
    (kk : ∀ (en1 : Nat → va_E) (H1 : Heap) (locs1 : List Loc), post en1 → zH G (adG G) en1 N1 s H1 locs1 → W p l e R s m args below meth c H1 locs1 (cells + mc) (slots + ms) Q (F0 m (pc + 3) ls rest)) : W p l e R s m args below meth c H locs cells slots Q (F0 m pc ls st0) := by
  refine z_size (fun hle => ?_)
  have hsize : H.size = zb G + N := by have := zlow hZ; omega
  have hts := hF.2.2.2.2
  refine va_callv (va_runI (nL := nL) (cc := cc) (Ts := zz) (own := own) hF hM (bytes := b) (maxL := nn) (n := n) (index := index) ⟨callB_of n hts (zgood0 c1) rfl rfl rfl (hts _ c3) (hts _ c2) c6 hR, c5, hts _ c4⟩ ⟨zPn.blind, fun U hU hW => ⟨rfl, by rw [hU]; exact hZ.1.moved hW.alike, hZ.2.2.2.warm hW, by rw [hU]; exact hsize⟩⟩ rfl hn hsz hst (lv_room hrs) hdg hf) hZ.2.1 (fun _ _ h => h) (fun _ h => h) (fun en1 t H1 locs1 ht hvm hp hB _ _ hS => kk en1 H1 locs1 hp ?_)
  exact ⟨by rw [ht] at hB; exact hB.moved hvm.symm, hS, hZ.2.2⟩
theorem z_oinit (h1 : Cond.methodLink own index Lib.objectInit ∈ zz) {a : Nat} (hF : CallFix p m c cc nL s args zz own) (hsz : ls.size = nL) (hdg : decode cc pc = .ok (.invokespecial index, 3)) (hR : 1 ≤ R.frames ∧ (rest.map fun v => v.category).sum + 12 ≤ R.locals) (kk : W p l e R s m args below meth c H locs cells slots Q (F0 m (pc + 3) ls rest)) : W p l e R s m args below meth c H locs cells slots Q (F0 m pc ls (.ref a :: rest)) :=
  W.objInit hF.1 hF.2.1 hF.2.2.2.1 (hF.2.2.2.2 _ h1) (hF.2.2.2.2 _ im_Object_init) (hF.2.2.2.2 _ cd_Object_init) rfl (hsz.trans hF.2.2.1.symm) rfl hdg hR.1 (by show 2 * 0 + _ + 12 ≤ _; have := hR.2; omega) kk
theorem z_vretc {post : (Nat → va_E) → Prop} {mc ms : Nat} (hF : CallFix p m c cc nL s args zz own) (hr : meth.sig.returnType = none) (hlocks : meth.locks = false) (hZ : zH G (adG G) en N s H locs) (hp : post en) (hdg : decode cc pc = .ok (.return_, 1)) : W p l e R s m args below meth c H locs mc ms (MQ below (zQv G (adG G) N post) args s mc ms (zA G)) (F0 m pc ls []) :=
  W.vret hF.1 hF.2.1 hr (fun t ht hW => ⟨⟨en, rfl, hp, (show zW G (adG G) en N t t.heap by rw [ht]; exact hZ.1.moved hW.alike)⟩, hZ.2.1.F ht⟩) hZ.2.1.2.2 hdg hlocks
theorem z_metc {y : MethodName} {b : ByteArray} {n d mc ms : Nat} {as : List Value} {Qc : Array Value → State → Outcome → State → Prop} (hy : plainName y.cls = true) (hlen : (lg_sl as).length ≤ n)
    (body : ∀ (p : Program) (e : Env) (s : State) (m : MethodId) (below : List Frame) (meth : Method) (c : Code) (ls : Array Slot), CallFix p m c b n s as.toArray zz y.cls → meth.sig.returnType = none → meth.locks = false → meth.name = y.name → zH G (adG G) en N s s.heap [] → s.heap.size = zb G + N → lv_has ls n (lv_args 0 as) → W p l e (zRn d mc ms) s m as.toArray below meth c s.heap [] 0 0 (MQ below Qc as.toArray s mc ms (zA G)) (F0 m 0 ls [])) :
    Met l y (.code y b n none :: zz) (zRn d mc ms) (zPn G en N as) Qc mc ms (zA G) := by
  refine Met.ofW (cc := b) (maxL := n) (ret := none) hy rfl ?_
  intro p e s m args below meth c s₁ B hml hv
  obtain ⟨rfl, hW, hX, hsz⟩ := hv
  have hts := atoms_spec (ws := .code y b n none :: zz) B.pre
  have hl := lv_entry as hlen
  rw [lg_entry_eq]
  exact body p e s m below meth c _ ⟨B.exec, B.bytes, hml, findClass_of_methodNamed B.named, fun w hw => hts w (List.mem_cons_of_mem _ hw)⟩ B.returns B.notSynchronized (name_of_methodNamed B.named B.method).1 (zH.start ⟨hW, hX⟩) hsz hl
end ZC
