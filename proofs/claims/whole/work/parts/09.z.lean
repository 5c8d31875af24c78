/-! worlds by roles: role k lies at address ad k and holds en k, for k below N; all lie at b0 or behind; whole worlds go through every call -/
abbrev zG : Type := va_G × Nat × ClassId × ClassId × ClassId × ClassId
abbrev zb (G : zG) : Nat := G.2.1
abbrev zI (G : zG) : ClassId := G.2.2.1
abbrev zJ (G : zG) : ClassId := G.2.2.2.1
abbrev zO (G : zG) : ClassId := G.2.2.2.2.1
abbrev zM (G : zG) : ClassId := G.2.2.2.2.2
abbrev ztys (G : zG) : List (ClassId × FieldType) := [(zI G, .int), (zJ G, .long), (zO G, .object R_W), (zM G, .array .int)]
abbrev zA (G : zG) : Nat → Prop := fun q => zb G ≤ q
def zl (ad : Nat → Nat) (en : Nat → va_E) (N : Nat) : va_W := (List.range N).map fun k => (ad k, en k)
theorem zl_get {ad : Nat → Nat} {en : Nat → va_E} {N k : Nat} (h : k < N) : (zl ad en N)[k]? = some (ad k, en k) := by simp [zl, h]
theorem zl_set {ad : Nat → Nat} {en : Nat → va_E} {N k : Nat} (h : k < N) (e : va_E) : (zl ad en N).set k (ad k, e) = zl ad (va_up en k e) N := by
  apply List.ext_getElem?
  intro i
  by_cases hi : i = k
  · subst hi
    rw [List.getElem?_set_self (by simp [zl, h]), zl_get h, va_up_self]
  · rw [List.getElem?_set_ne (Ne.symm hi)]
    by_cases hN : i < N
    · rw [zl_get hN, zl_get hN, va_up_ne en e hi]
    · rw [List.getElem?_eq_none (by simp [zl]; omega), List.getElem?_eq_none (by simp [zl]; omega)]
theorem zl_push {ad : Nat → Nat} {en : Nat → va_E} {N q : Nat} {e : va_E} : zl ad en N ++ [(q, e)] = zl (va_up ad N q) (va_up en N e) (N + 1) := by
  unfold zl
  rw [List.range_succ, List.map_append, List.map_cons, List.map_nil, va_up_self, va_up_self]
  congr 1
  refine List.map_congr_left (fun k hk => ?_)
  have hk := List.mem_range.mp hk
  rw [va_up_ne _ _ (by omega), va_up_ne _ _ (by omega)]
/-- the world, of a state and a heap -/
def zW (G : zG) (ad : Nat → Nat) (en : Nat → va_E) (N : Nat) (U : State) (H : Heap) : Prop := va_K G.1 classes (ztys G) U ∧ va_P G.1 classes (zl ad en N) H ∧ va_D (zA G) (zl ad en N) ∧ zb G ≤ H.size
/-- what is known of the tables beside zz: private fields of nest mates, arrays of words, arrays of arrays -/
def zX (U : State) : Prop := (∀ w ∈ zn, va_Nw w U) ∧ va_AO R_W U ∧ (Cond.arrayOver (.array .int)).before #[] U = true
theorem zX.warm {s U : State} (hW : s.WarmedH U.vm) (h : zX s) : zX U := by
  refine ⟨?_, h.2.1.moved hW.alike, over_moved hW.alike h.2.2⟩
  have h1 := h.1
  unfold zn at h1 ⊢
  simp only [List.forall_mem_cons] at h1 ⊢
  obtain ⟨a1, a2, a3, a4, a5, a6, -⟩ := h1
  exact ⟨va_Nw.warmF hW a1, va_Nw.warmF hW a2, va_Nw.warmF hW a3, va_Nw.warmF hW a4, va_Nw.warmF hW a5, va_Nw.warmF hW a6, fun _ h => absurd h List.not_mem_nil⟩
theorem zX.same {s U : State} (hv : s.vm = U.vm) (h : zX s) : zX U := by
  refine ⟨?_, h.2.1.moved (by rw [hv]; exact Vm.Alike.refl _), over_moved (by rw [hv]; exact Vm.Alike.refl _) h.2.2⟩
  have h1 := h.1
  unfold zn at h1 ⊢
  simp only [List.forall_mem_cons] at h1 ⊢
  obtain ⟨a1, a2, a3, a4, a5, a6, -⟩ := h1
  exact ⟨va_Nw.same rfl hv a1, va_Nw.same rfl hv a2, va_Nw.same rfl hv a3, va_Nw.same rfl hv a4, va_Nw.same rfl hv a5, va_Nw.same rfl hv a6, fun _ h => absurd h List.not_mem_nil⟩
def zH (G : zG) (ad : Nat → Nat) (en : Nat → va_E) (N : Nat) (s : State) (H : Heap) (locs : List Loc) : Prop := zW G ad en N s H ∧ va_S (zA G) s.heap H locs ∧ zb G ≤ s.heap.size ∧ zX s
def zP (G : zG) (ad : Nat → Nat) (en : Nat → va_E) (N : Nat) (as : List Value) : Array Value → State → Prop := va_Pc as (fun U => zW G ad en N U U.heap ∧ zX U)
def zQi (G : zG) (ad : Nat → Nat) (N : Nat) (post : Int32 → (Nat → va_E) → Prop) : Array Value → State → Outcome → State → Prop := va_Qi post (fun en t => zW G ad en N t t.heap) (zA G)
def zQl (G : zG) (ad : Nat → Nat) (N : Nat) (post : Int64 → (Nat → va_E) → Prop) : Array Value → State → Outcome → State → Prop := va_Ql post (fun en t => zW G ad en N t t.heap) (zA G)
def zQv (G : zG) (ad : Nat → Nat) (N : Nat) (post : (Nat → va_E) → Prop) : Array Value → State → Outcome → State → Prop := va_Qv post (fun en t => zW G ad en N t t.heap) (zA G)
def zQr (G : zG) (ad : Nat → Nat) (N : Nat) (post : Nat → (Nat → va_E) → Prop) : Array Value → State → Outcome → State → Prop := va_Qr (fun _ : Nat → va_E => True) (fun en a t => post a en ∧ zW G ad en N t t.heap) (zA G)
/-- a constructor's end: roles were added -/
def zQn (G : zG) (post : (Nat → Nat) → (Nat → va_E) → Nat → Prop) : Array Value → State → Outcome → State → Prop := va_Qv (fun u : (Nat → Nat) × (Nat → va_E) × Nat => post u.1 u.2.1 u.2.2) (fun u t => zW G u.1 u.2.1 u.2.2 t t.heap) (zA G)
abbrev zR (d : Nat) : Room := { frames := d, cells := 0, slots := 0, locals := 40 * d }
abbrev zRn (d mc ms : Nat) : Room := { frames := d, cells := mc, slots := ms, locals := 40 * d }
/-- a method's contract: at depth d, from the world en, with the values as -/
abbrev zMi (l : Launch) (y : MethodName) (b : ByteArray) (n : Nat) (r : FieldType) (d : Nat) (G : zG) (ad : Nat → Nat) (en : Nat → va_E) (N : Nat) (as : List Value) (post : Int32 → (Nat → va_E) → Prop) : Prop := Met l y (.code y b n (some r) :: zz) (zR d) (zP G ad en N as) (zQi G ad N post) 0 0 (zA G)
abbrev zMl (l : Launch) (y : MethodName) (b : ByteArray) (n : Nat) (d : Nat) (G : zG) (ad : Nat → Nat) (en : Nat → va_E) (N : Nat) (as : List Value) (post : Int64 → (Nat → va_E) → Prop) : Prop := Met l y (.code y b n (some .long) :: zz) (zR d) (zP G ad en N as) (zQl G ad N post) 0 0 (zA G)
abbrev zMv (l : Launch) (y : MethodName) (b : ByteArray) (n : Nat) (d : Nat) (G : zG) (ad : Nat → Nat) (en : Nat → va_E) (N : Nat) (as : List Value) (post : (Nat → va_E) → Prop) : Prop := Met l y (.code y b n none :: zz) (zR d) (zP G ad en N as) (zQv G ad N post) 0 0 (zA G)
abbrev zMr (l : Launch) (y : MethodName) (b : ByteArray) (n : Nat) (r : FieldType) (d : Nat) (G : zG) (ad : Nat → Nat) (en : Nat → va_E) (N : Nat) (as : List Value) (post : Nat → (Nat → va_E) → Prop) : Prop := Met l y (.code y b n (some r) :: zz) (zR d) (zP G ad en N as) (zQr G ad N post) 0 0 (zA G)
abbrev zMn (l : Launch) (y : MethodName) (b : ByteArray) (n : Nat) (d mc ms : Nat) (G : zG) (ad : Nat → Nat) (en : Nat → va_E) (N : Nat) (as : List Value) (post : (Nat → Nat) → (Nat → va_E) → Nat → Prop) : Prop := Met l y (.code y b n none :: zz) (zRn d mc ms) (zP G ad en N as) (zQn G post) mc ms (zA G)
theorem zW.moved {G : zG} {ad : Nat → Nat} {en : Nat → va_E} {N : Nat} {u U : State} {H : Heap} (h : zW G ad en N u H) (hvm : u.vm.Alike U.vm) : zW G ad en N U H := ⟨va_K.moved hvm h.1, h.2⟩
theorem zH.start {G : zG} {ad : Nat → Nat} {en : Nat → va_E} {N : Nat} {s : State} (h : zW G ad en N s s.heap ∧ zX s) : zH G ad en N s s.heap [] := ⟨h.1, va_S.rf, h.1.2.2.2, h.2⟩
theorem zP.blind {G : zG} {ad : Nat → Nat} {en : Nat → va_E} {N : Nat} {as : List Value} : FrameBlind (zP G ad en N as) := fun a U g mk q => ⟨q.1, q.2.1.moved (u := U) (U := U.calling g mk a) (Vm.Alike.refl U.vm), q.2.2.same (s := U) (U := U.calling g mk a) rfl⟩
theorem zH.pre {G : zG} {ad : Nat → Nat} {en : Nat → va_E} {N : Nat} {s : State} {H : Heap} {locs : List Loc} {as : List Value} (h : zH G ad en N s H locs) : ∀ U : State, U.heap = H → s.WarmedH U.vm → zP G ad en N as as.toArray U := fun U hU hW => ⟨rfl, by rw [hU]; exact h.1.moved hW.alike, h.2.2.2.warm hW⟩
theorem zgood {c0 : Cond} {y : MethodName} {b : ByteArray} {n : Nat} {r : Option FieldType} (hy : Cond.code y b n r ∈ zz) : GoodIn (c0 :: zz) (.code y b n r :: zz) := by
  intro w hw
  rcases List.mem_cons.mp hw with rfl | hw
  · exact ⟨List.mem_cons_of_mem _ hy, zz_good _ hy⟩
  · exact ⟨List.mem_cons_of_mem _ hw, zz_good _ hw⟩
theorem zgood0 {y : MethodName} {b : ByteArray} {n : Nat} {r : Option FieldType} (hy : Cond.code y b n r ∈ zz) : GoodIn zz (.code y b n r :: zz) := by
  intro w hw
  rcases List.mem_cons.mp hw with rfl | hw
  · exact ⟨hy, zz_good _ hy⟩
  · exact ⟨hw, zz_good _ hw⟩
section Z
variable {p : Program} {l : Launch} {e : Env} {R : Room} {s : State} {m : MethodId} {args : Array Value} {below : List Frame} {meth : Method} {c : Code} {H : Heap} {locs : List Loc} {cells slots : Nat} {Q : State → Prop}
variable {cc : ByteArray} {pc nL index : Nat} {ls : Array Slot} {rest st0 : List Value} {G : zG} {ad : Nat → Nat} {en : Nat → va_E} {N : Nat} {own : String}
theorem z_get {C : String} {T : u_T} {n ci : Nat} (hF : CallFix p m c cc nL s args zz own) (hZ : zH G ad en N s H locs) (hin : ∀ w ∈ u_ws C T n, w ∈ zz) (hc : classes[ci]? = some (C, T, n)) (j : Nat) (hj : j < n) (hd : (T j).1 = C)
    (hlink : Cond.fieldLink own index C (T j).2.1 (T j).2.2.1 ∈ zz) (k : Nat) (hk : k < N) {fs : List Value} (he : en k = .inr (ci, fs)) {v : Value} (hv : fs[j]? = some v) (hdg : decode cc pc = .ok (.getfield index, 3))
    (kk : W p l e R s m args below meth c H locs cells slots Q (F0 m (pc + 3) ls (v :: rest))) : W p l e R s m args below meth c H locs cells slots Q (F0 m pc ls (.ref (ad k) :: rest)) := by
  obtain ⟨hx, hb, -, hown, hts⟩ := hF
  have hg := zl_get (ad := ad) (en := en) hk
  rw [he] at hg
  exact va_get (D := G.1) hx hb hts hin hown hZ.1.1 hZ.1.2.1 k hg hc j hj (hts _ hlink) (fun _ h => by rw [hd] at h; exact h) hv hdg kk
theorem z_getN {host C : String} {T : u_T} {n ci : Nat} (hF : CallFix p m c cc nL s args zz own) (hZ : zH G ad en N s H locs) (hin : ∀ w ∈ u_ws C T n, w ∈ zz) (hc : classes[ci]? = some (C, T, n)) (j : Nat) (hj : j < n) (hd : (T j).1 = C)
    (hlink : Cond.fieldLinkNest own index C (T j).2.1 (T j).2.2.1 host ∈ zn) (k : Nat) (hk : k < N) {fs : List Value} (he : en k = .inr (ci, fs)) {v : Value} (hv : fs[j]? = some v) (hdg : decode cc pc = .ok (.getfield index, 3))
    (kk : W p l e R s m args below meth c H locs cells slots Q (F0 m (pc + 3) ls (v :: rest))) : W p l e R s m args below meth c H locs cells slots Q (F0 m pc ls (.ref (ad k) :: rest)) := by
  obtain ⟨hx, hb, -, hown, hts⟩ := hF
  have hg := zl_get (ad := ad) (en := en) hk
  rw [he] at hg
  exact va_getN (D := G.1) hx hb hts hin hown hZ.1.1 hZ.1.2.1 k hg hc j hj (va_Nw.use rfl (hZ.2.2.2.1 _ hlink)) (fun _ h => by rw [hd] at h; exact h) hv hdg kk
theorem z_put {C : String} {T : u_T} {n ci : Nat} (ty0 : Nat → FieldType) (hF : CallFix p m c cc nL s args zz own) (hZ : zH G ad en N s H locs) (hin : ∀ w ∈ u_ws C T n, w ∈ zz) (hty : ∀ k, k < n → parseFieldDescriptor (T k).2.2.1 = some (ty0 k)) (hnm : ∀ a, a < n → ∀ b, b < n → a ≠ b → (T a).2.1 ≠ (T b).2.1) (hc : classes[ci]? = some (C, T, n)) (j : Nat) (hj : j < n) (hd : (T j).1 = C) (hfin : (T j).2.2.2 = false)
    (hlink : Cond.fieldLink own index C (T j).2.1 (T j).2.2.1 ∈ zz) (k : Nat) (hk : k < N) {fs : List Value} (he : en k = .inr (ci, fs)) {ty : FieldType} {v : Value} (hpd : parseFieldDescriptor (T j).2.2.1 = some ty) (hn : narrow ty v = v) (hfit : fits ty v = true) (hl : j < fs.length) (hdg : decode cc pc = .ok (.putfield index, 3))
    (kk : ∀ (H1 : Heap) (locs1 : List Loc), zH G ad (va_up en k (.inr (ci, fs.set j v))) N s H1 locs1 → W p l e R s m args below meth c H1 locs1 cells slots Q (F0 m (pc + 3) ls rest)) : W p l e R s m args below meth c H locs cells slots Q (F0 m pc ls (v :: .ref (ad k) :: rest)) := by
  obtain ⟨hx, hb, -, hown, hts⟩ := hF
  obtain ⟨⟨hK, hP, hD, hz⟩, hS, hz0⟩ := hZ
  have hg := zl_get (ad := ad) (en := en) hk
  rw [he] at hg
  refine va_put (D := G.1) hx hb hts hin ty0 hty hnm hown hK hP hD hS k hg hc j hj (hts _ hlink) (fun _ h => by rw [hd] at h; exact h) hfin hpd hn hfit hl hdg (fun H1 locs1 h1 h2 h3 => ?_)
  rw [zl_set hk] at h1 h2
  exact kk H1 locs1 ⟨⟨hK, h1, h2, Nat.le_trans hz0.1 h3.1⟩, h3, hz0⟩
theorem z_putN {host C : String} {T : u_T} {n ci : Nat} (ty0 : Nat → FieldType) (hF : CallFix p m c cc nL s args zz own) (hZ : zH G ad en N s H locs) (hin : ∀ w ∈ u_ws C T n, w ∈ zz) (hty : ∀ k, k < n → parseFieldDescriptor (T k).2.2.1 = some (ty0 k)) (hnm : ∀ a, a < n → ∀ b, b < n → a ≠ b → (T a).2.1 ≠ (T b).2.1) (hc : classes[ci]? = some (C, T, n)) (j : Nat) (hj : j < n) (hd : (T j).1 = C) (hfin : (T j).2.2.2 = false)
    (hlink : Cond.fieldLinkNest own index C (T j).2.1 (T j).2.2.1 host ∈ zn) (k : Nat) (hk : k < N) {fs : List Value} (he : en k = .inr (ci, fs)) {ty : FieldType} {v : Value} (hpd : parseFieldDescriptor (T j).2.2.1 = some ty) (hn : narrow ty v = v) (hfit : fits ty v = true) (hl : j < fs.length) (hdg : decode cc pc = .ok (.putfield index, 3))
    (kk : ∀ (H1 : Heap) (locs1 : List Loc), zH G ad (va_up en k (.inr (ci, fs.set j v))) N s H1 locs1 → W p l e R s m args below meth c H1 locs1 cells slots Q (F0 m (pc + 3) ls rest)) : W p l e R s m args below meth c H locs cells slots Q (F0 m pc ls (v :: .ref (ad k) :: rest)) := by
  obtain ⟨hx, hb, -, hown, hts⟩ := hF
  obtain ⟨⟨hK, hP, hD, hz⟩, hS, hz0⟩ := hZ
  have hg := zl_get (ad := ad) (en := en) hk
  rw [he] at hg
  refine va_putN (D := G.1) hx hb hts hin ty0 hty hnm hown hK hP hD hS k hg hc j hj (va_Nw.use rfl (hz0.2.1 _ hlink)) (fun _ h => by rw [hd] at h; exact h) hfin hpd hn hfit hl hdg (fun H1 locs1 h1 h2 h3 => ?_)
  rw [zl_set hk] at h1 h2
  exact kk H1 locs1 ⟨⟨hK, h1, h2, Nat.le_trans hz0.1 h3.1⟩, h3, hz0⟩
theorem z_putF {C : String} {T : u_T} {n ci : Nat} (ty0 : Nat → FieldType) (hF : CallFix p m c cc nL s args zz C) (hZ : zH G ad en N s H locs) (hin : ∀ w ∈ u_ws C T n, w ∈ zz) (hty : ∀ k, k < n → parseFieldDescriptor (T k).2.2.1 = some (ty0 k)) (hnm : ∀ a, a < n → ∀ b, b < n → a ≠ b → (T a).2.1 ≠ (T b).2.1) (hc : classes[ci]? = some (C, T, n)) (j : Nat) (hj : j < n) (hd : (T j).1 = C) (hfin : (T j).2.2.2 = true)
    (hlink : Cond.fieldLink C index C (T j).2.1 (T j).2.2.1 ∈ zz) (hnam : meth.name = "<init>") (k : Nat) (hk : k < N) {fs : List Value} (he : en k = .inr (ci, fs)) {ty : FieldType} {v : Value} (hpd : parseFieldDescriptor (T j).2.2.1 = some ty) (hn : narrow ty v = v) (hfit : fits ty v = true) (hl : j < fs.length) (hdg : decode cc pc = .ok (.putfield index, 3))
    (kk : ∀ (H1 : Heap) (locs1 : List Loc), zH G ad (va_up en k (.inr (ci, fs.set j v))) N s H1 locs1 → W p l e R s m args below meth c H1 locs1 cells slots Q (F0 m (pc + 3) ls rest)) : W p l e R s m args below meth c H locs cells slots Q (F0 m pc ls (v :: .ref (ad k) :: rest)) := by
  obtain ⟨hx, hb, -, hown, hts⟩ := hF
  obtain ⟨⟨hK, hP, hD, hz⟩, hS, hz0⟩ := hZ
  have hg := zl_get (ad := ad) (en := en) hk
  rw [he] at hg
  refine va_putF (D := G.1) hx hb hts hin ty0 hty hnm hown hK hP hD hS k hg hc j hj (hts _ hlink) (fun _ h => by rw [hd] at h; exact h) hfin hnam hd hpd hn hfit hl hdg (fun H1 locs1 h1 h2 h3 => ?_)
  rw [zl_set hk] at h1 h2
  exact kk H1 locs1 ⟨⟨hK, h1, h2, Nat.le_trans hz0.1 h3.1⟩, h3, hz0⟩
/-- arrays, at an index that is a number inside -/
theorem z_iald (hF : CallFix p m c cc nL s args zz own) (hZ : zH G ad en N s H locs) (k : Nat) (hk : k < N) {n : Nat} {f : Nat → Int32} (he : en k = .inl (zI G, n, .inl f)) (j : Nat) (hj : j < n) (hn : n < 2 ^ 31) (hdg : decode cc pc = .ok (.iaload, 1))
    (kk : W p l e R s m args below meth c H locs cells slots Q (F0 m (pc + 1) ls (.int (f j) :: rest))) : W p l e R s m args below meth c H locs cells slots Q (F0 m pc ls (.int (nI j) :: .ref (ad k) :: rest)) := by
  have hg := zl_get (ad := ad) (en := en) hk
  rw [he] at hg
  refine va_iald (D := G.1) hF.1 hF.2.1 hZ.1.1 hZ.1.2.1 k 0 hg rfl (vp_in_nI hj hn) hdg ?_
  rw [nI_clamp (by omega)]
  exact kk
theorem z_iast (hF : CallFix p m c cc nL s args zz own) (hZ : zH G ad en N s H locs) (k : Nat) (hk : k < N) {n : Nat} {f : Nat → Int32} (he : en k = .inl (zI G, n, .inl f)) (j : Nat) (hj : j < n) (hn : n < 2 ^ 31) {x : Int32} (hdg : decode cc pc = .ok (.iastore, 1))
    (kk : ∀ (H1 : Heap) (locs1 : List Loc), zH G ad (va_up en k (.inl (zI G, n, .inl (upd f j x)))) N s H1 locs1 → W p l e R s m args below meth c H1 locs1 cells slots Q (F0 m (pc + 1) ls rest)) : W p l e R s m args below meth c H locs cells slots Q (F0 m pc ls (.int x :: .int (nI j) :: .ref (ad k) :: rest)) := by
  obtain ⟨⟨hK, hP, hD, hz⟩, hS, hz0⟩ := hZ
  have hg := zl_get (ad := ad) (en := en) hk
  rw [he] at hg
  refine va_iast (D := G.1) hF.1 hF.2.1 hK hP hD hS k 0 hg rfl (vp_in_nI hj hn) hdg (fun H1 locs1 h1 h2 h3 => ?_)
  rw [zl_set hk, nI_clamp (by omega)] at h1 h2
  exact kk H1 locs1 ⟨⟨hK, h1, h2, Nat.le_trans hz0.1 h3.1⟩, h3, hz0⟩
theorem z_lald (hF : CallFix p m c cc nL s args zz own) (hZ : zH G ad en N s H locs) (k : Nat) (hk : k < N) {n : Nat} {f : Nat → Int64} (he : en k = .inl (zJ G, n, .inr (.inl f))) (j : Nat) (hj : j < n) (hn : n < 2 ^ 31) (hdg : decode cc pc = .ok (.laload, 1))
    (kk : W p l e R s m args below meth c H locs cells slots Q (F0 m (pc + 1) ls (.long (f j) :: rest))) : W p l e R s m args below meth c H locs cells slots Q (F0 m pc ls (.int (nI j) :: .ref (ad k) :: rest)) := by
  have hg := zl_get (ad := ad) (en := en) hk
  rw [he] at hg
  refine va_lald (D := G.1) hF.1 hF.2.1 hZ.1.1 hZ.1.2.1 k 1 hg rfl (vp_in_nI hj hn) hdg ?_
  rw [nI_clamp (by omega)]
  exact kk
theorem z_last (hF : CallFix p m c cc nL s args zz own) (hZ : zH G ad en N s H locs) (k : Nat) (hk : k < N) {n : Nat} {f : Nat → Int64} (he : en k = .inl (zJ G, n, .inr (.inl f))) (j : Nat) (hj : j < n) (hn : n < 2 ^ 31) {x : Int64} (hdg : decode cc pc = .ok (.lastore, 1))
    (kk : ∀ (H1 : Heap) (locs1 : List Loc), zH G ad (va_up en k (.inl (zJ G, n, .inr (.inl (vp_updL f j x))))) N s H1 locs1 → W p l e R s m args below meth c H1 locs1 cells slots Q (F0 m (pc + 1) ls rest)) : W p l e R s m args below meth c H locs cells slots Q (F0 m pc ls (.long x :: .int (nI j) :: .ref (ad k) :: rest)) := by
  obtain ⟨⟨hK, hP, hD, hz⟩, hS, hz0⟩ := hZ
  have hg := zl_get (ad := ad) (en := en) hk
  rw [he] at hg
  refine va_last (D := G.1) hF.1 hF.2.1 hK hP hD hS k 1 hg rfl (vp_in_nI hj hn) hdg (fun H1 locs1 h1 h2 h3 => ?_)
  rw [zl_set hk, nI_clamp (by omega)] at h1 h2
  exact kk H1 locs1 ⟨⟨hK, h1, h2, Nat.le_trans hz0.1 h3.1⟩, h3, hz0⟩
/-- words: an array of references to roles -/
theorem z_oald (hF : CallFix p m c cc nL s args zz own) (hZ : zH G ad en N s H locs) (k : Nat) (hk : k < N) {n : Nat} {f : Nat → Option Nat} (he : en k = .inl (zO G, n, .inr (.inr (.inr (.inr f))))) (j : Nat) (hj : j < n) (hn : n < 2 ^ 31) {a : Nat} (hv : f j = some a) (hdg : decode cc pc = .ok (.aaload, 1))
    (kk : W p l e R s m args below meth c H locs cells slots Q (F0 m (pc + 1) ls (.ref a :: rest))) : W p l e R s m args below meth c H locs cells slots Q (F0 m pc ls (.int (nI j) :: .ref (ad k) :: rest)) := by
  have hg := zl_get (ad := ad) (en := en) hk
  rw [he] at hg
  refine va_aldq (D := G.1) hF.1 hF.2.1 hZ.1.1 hZ.1.2.1 k 2 hg rfl (vp_in_nI hj hn) hdg ?_
  rw [nI_clamp (by omega), hv]
  exact kk
theorem z_oast (hF : CallFix p m c cc nL s args zz own) (hZ : zH G ad en N s H locs) (k : Nat) (hk : k < N) {n : Nat} {f : Nat → Option Nat} (he : en k = .inl (zO G, n, .inr (.inr (.inr (.inr f))))) (j : Nat) (hj : j < n) (hn : n < 2 ^ 31) (k2 : Nat) (hk2 : k2 < N) {ci : Nat} {vs : List Value} (he2 : en k2 = .inr (ci, vs)) {r : vw_C} (hc : classes[ci]? = some r) (hr : r.1 = R_W) (hdg : decode cc pc = .ok (.aastore, 1))
    (kk : ∀ (H1 : Heap) (locs1 : List Loc), zH G ad (va_up en k (.inl (zO G, n, .inr (.inr (.inr (.inr (va_up f j (some (ad k2))))))))) N s H1 locs1 → W p l e R s m args below meth c H1 locs1 cells slots Q (F0 m (pc + 1) ls rest)) : W p l e R s m args below meth c H locs cells slots Q (F0 m pc ls (.ref (ad k2) :: .int (nI j) :: .ref (ad k) :: rest)) := by
  obtain ⟨⟨hK, hP, hD, hz⟩, hS, hz0⟩ := hZ
  have hg := zl_get (ad := ad) (en := en) hk
  rw [he] at hg
  have hg2 := zl_get (ad := ad) (en := en) hk2
  rw [he2] at hg2
  refine va_astq (D := G.1) hF.1 hF.2.1 hK hP hD hS k 2 k2 ci (r := r) hg (by rw [hr]; rfl) hg2 hc (vp_in_nI hj hn) hdg (fun H1 locs1 h1 h2 h3 => ?_)
  rw [zl_set hk, nI_clamp (by omega)] at h1 h2
  exact kk H1 locs1 ⟨⟨hK, h1, h2, Nat.le_trans hz0.1 h3.1⟩, h3, hz0⟩
/-- rows of a table of ints -/
theorem z_mald (hF : CallFix p m c cc nL s args zz own) (hZ : zH G ad en N s H locs) (k : Nat) (hk : k < N) {n : Nat} {f : Nat → Option Nat} (he : en k = .inl (zM G, n, .inr (.inr (.inr (.inr f))))) (j : Nat) (hj : j < n) (hn : n < 2 ^ 31) {a : Nat} (hv : f j = some a) (hdg : decode cc pc = .ok (.aaload, 1))
    (kk : W p l e R s m args below meth c H locs cells slots Q (F0 m (pc + 1) ls (.ref a :: rest))) : W p l e R s m args below meth c H locs cells slots Q (F0 m pc ls (.int (nI j) :: .ref (ad k) :: rest)) := by
  have hg := zl_get (ad := ad) (en := en) hk
  rw [he] at hg
  have hlt : (nI j).toNatClampNeg = j := nI_clamp (by omega)
  exact W.aald (v := .ref a) (ty := .array .int) hF.1 hF.2.1 (hZ.1.2.1 k _ hg) ((hZ.1.1.2 3 _ rfl).1 n (fun j => va_rf (f j))) rfl (fun q => by cases q) (by show ¬ (nI j < 0 ∨ (arrV _ _ _).slots.size ≤ _); rw [arrV_size]; exact vp_in_nI hj hn) (by show (arrV _ _ _).slots[_]? = _; rw [hlt, arrV_read _ _ hj, hv]; rfl) rfl rfl hdg kk
theorem z_alen (hF : CallFix p m c cc nL s args zz own) (hZ : zH G ad en N s H locs) (k : Nat) (hk : k < N) {n : Nat} {f : Nat → Int32} (he : en k = .inl (zI G, n, .inl f)) (hdg : decode cc pc = .ok (.arraylength, 1))
    (kk : W p l e R s m args below meth c H locs cells slots Q (F0 m (pc + 1) ls (.int (nI n) :: rest))) : W p l e R s m args below meth c H locs cells slots Q (F0 m pc ls (.ref (ad k) :: rest)) := by
  have hg := zl_get (ad := ad) (en := en) hk
  rw [he] at hg
  exact va_alen (D := G.1) hF.1 hF.2.1 hZ.1.1 hZ.1.2.1 k 0 hg rfl rfl hdg kk
theorem z_recv (hZ : zH G ad en N s H locs) (k : Nat) (hk : k < N) {ci : Nat} {fs : List Value} (he : en k = .inr (ci, fs)) {q : vw_C} (hc : classes[ci]? = some q) : ∃ cell : Cell, H[ad k]? = some cell ∧ cell.vm.isStatics = false ∧ s.vm.findClass q.1 = some cell.cls := by
  have hg := zl_get (ad := ad) (en := en) hk
  rw [he] at hg
  exact va_recv hZ.1.1 hZ.1.2.1 hc hg
/-- what a call of a method of the class C needs of the words -/
def zcw (own C : String) (index : Nat) (y : MethodName) (b : ByteArray) (nn : Nat) (r : Option FieldType) (n : Nat) : Prop := Cond.code y b nn r ∈ zz ∧ Cond.methodLink own index y ∈ zz ∧ Cond.initialized y.cls ∈ zz ∧ Cond.instanceMethod y ∈ zz ∧ Cond.selects C y y ∈ zz ∧ y.cls ≠ "java/lang/invoke/MethodHandle" ∧ y.cls ≠ "java/lang/invoke/VarHandle" ∧ (parseMethodDescriptor y.desc).map (fun d => d.parameters.length) = some n
theorem z_run {C : String} {y : MethodName} {b : ByteArray} {nn n d : Nat} {r : Option FieldType} {As : List Value} {Qc : Array Value → State → Outcome → State → Prop} (hcw : zcw own C index y b nn r n) (hF : CallFix p m c cc nL s args zz own) (hZ : zH G ad en N s H locs) (k : Nat) (hM : Met l y (.code y b nn r :: zz) (zR d) (zP G ad en N (.ref (ad k) :: As)) Qc 0 0 (zA G))
    (hR : d + 1 ≤ R.frames ∧ 8 + (nn + 11) + 40 * d ≤ R.locals ∧ cells ≤ R.cells ∧ slots ≤ R.slots) (hk : k < N) {ci : Nat} {fs : List Value} (he : en k = .inr (ci, fs)) {T : u_T} {nf : Nat} (hc : classes[ci]? = some (C, T, nf)) (hn : As.length = n) (hsz : ls.size = nL) (hst : st0 = As.reverse ++ .ref (ad k) :: rest) (hrs : (rest.map fun v => v.category).sum ≤ 8) (hdg : decode cc pc = .ok (.invokevirtual index, 3)) :
    va_Run p l e R s m args below meth c H locs cells slots 0 0 (F0 m pc ls st0) rest (Qc (Value.ref (ad k) :: As).toArray) (zA G) := by
  obtain ⟨c1, c2, c3, c4, c5, c6, c7, c8⟩ := hcw
  have hts := hF.2.2.2.2
  have hrecv := z_recv hZ k hk he hc
  refine va_runV (C := C) (nL := nL) (cc := cc) (Ts := zz) (own := own) hF hM (bytes := b) (maxL := nn) (ret := r) (n := n) (index := index) ?_ ⟨zP.blind, hrecv, hZ.pre⟩ rfl hn hsz hst (lv_room hrs) hdg ⟨hR.2.2.1, hR.2.2.2⟩
  exact ⟨callB_of n hts (zgood0 c1) rfl rfl rfl (hts _ c3) (hts _ c2) ⟨c6, c7, c8⟩ ⟨hR.1, hR.2.1⟩, hts _ c4, hts _ c5⟩
theorem zH.back {en1 : Nat → va_E} {t : State} {H1 : Heap} {locs1 : List Loc} (hZ : zH G ad en N s H locs) (ht : t.heap = H1) (hvm : s.vm.Alike t.vm) (hB : zW G ad en1 N t t.heap) (hS : va_S (zA G) s.heap H1 locs1) : zH G ad en1 N s H1 locs1 := ⟨by rw [ht] at hB; exact hB.moved hvm.symm, hS, hZ.2.2⟩
theorem z_calli {post : Int32 → (Nat → va_E) → Prop} {a : Array Value} (hZ : zH G ad en N s H locs) (hr : va_Run p l e R s m args below meth c H locs cells slots 0 0 (F0 m pc ls st0) rest (zQi G ad N post a) (zA G))
    (kk : ∀ (v : Int32) (en1 : Nat → va_E) (H1 : Heap) (locs1 : List Loc), post v en1 → zH G ad en1 N s H1 locs1 → W p l e R s m args below meth c H1 locs1 cells slots Q (F0 m (pc + 3) ls (.int v :: rest))) : W p l e R s m args below meth c H locs cells slots Q (F0 m pc ls st0) :=
  va_calli hr hZ.2.1 (fun _ _ h => h) (fun _ h => h) (fun v en1 t H1 locs1 ht hvm hp hB _ _ hS => kk v en1 H1 locs1 hp (hZ.back ht hvm hB hS))
theorem z_calll {post : Int64 → (Nat → va_E) → Prop} {a : Array Value} (hZ : zH G ad en N s H locs) (hr : va_Run p l e R s m args below meth c H locs cells slots 0 0 (F0 m pc ls st0) rest (zQl G ad N post a) (zA G))
    (kk : ∀ (v : Int64) (en1 : Nat → va_E) (H1 : Heap) (locs1 : List Loc), post v en1 → zH G ad en1 N s H1 locs1 → W p l e R s m args below meth c H1 locs1 cells slots Q (F0 m (pc + 3) ls (.long v :: rest))) : W p l e R s m args below meth c H locs cells slots Q (F0 m pc ls st0) :=
  va_calll hr hZ.2.1 (fun _ _ h => h) (fun _ h => h) (fun v en1 t H1 locs1 ht hvm hp hB _ _ hS => kk v en1 H1 locs1 hp (hZ.back ht hvm hB hS))
theorem z_callv {post : (Nat → va_E) → Prop} {a : Array Value} (hZ : zH G ad en N s H locs) (hr : va_Run p l e R s m args below meth c H locs cells slots 0 0 (F0 m pc ls st0) rest (zQv G ad N post a) (zA G))
    (kk : ∀ (en1 : Nat → va_E) (H1 : Heap) (locs1 : List Loc), post en1 → zH G ad en1 N s H1 locs1 → W p l e R s m args below meth c H1 locs1 cells slots Q (F0 m (pc + 3) ls rest)) : W p l e R s m args below meth c H locs cells slots Q (F0 m pc ls st0) :=
  va_callv hr hZ.2.1 (fun _ _ h => h) (fun _ h => h) (fun en1 t H1 locs1 ht hvm hp hB _ _ hS => kk en1 H1 locs1 hp (hZ.back ht hvm hB hS))
theorem z_callr {post : Nat → (Nat → va_E) → Prop} {a : Array Value} (hZ : zH G ad en N s H locs) (hr : va_Run p l e R s m args below meth c H locs cells slots 0 0 (F0 m pc ls st0) rest (zQr G ad N post a) (zA G))
    (kk : ∀ (v : Nat) (en1 : Nat → va_E) (H1 : Heap) (locs1 : List Loc), post v en1 → zH G ad en1 N s H1 locs1 → W p l e R s m args below meth c H1 locs1 cells slots Q (F0 m (pc + 3) ls (.ref v :: rest))) : W p l e R s m args below meth c H locs cells slots Q (F0 m pc ls st0) :=
  va_callr hr hZ.2.1 (fun _ _ h => h) (fun _ h => h) (fun en1 ra t H1 locs1 ht hvm _ hB _ _ hS => kk ra en1 H1 locs1 hB.1 (hZ.back ht hvm hB.2 hS))
/-- ends -/
theorem z_iret {post : Int32 → (Nat → va_E) → Prop} {v : Int32} {ty : FieldType} (hF : CallFix p m c cc nL s args zz own) (hr : meth.sig.returnType = some ty) (hlocks : meth.locks = false) (hZ : zH G ad en N s H locs) (hn : narrow ty (.int v) = .int v) (hp : post v en) (hdg : decode cc pc = .ok (.ireturn, 1)) : W p l e R s m args below meth c H locs cells slots (MQ below (zQi G ad N post) args s cells slots (zA G)) (F0 m pc ls [.int v]) :=
  W.zret hF.1 hF.2.1 hr hn (fun t ht hW => ⟨⟨v, en, rfl, hp, (show zW G ad en N t t.heap by rw [ht]; exact hZ.1.moved hW.alike)⟩, hZ.2.1.F ht⟩) hZ.2.1.2.2 hdg hlocks
theorem z_lret {post : Int64 → (Nat → va_E) → Prop} {v : Int64} (hF : CallFix p m c cc nL s args zz own) (hr : meth.sig.returnType = some .long) (hlocks : meth.locks = false) (hZ : zH G ad en N s H locs) (hp : post v en) (hdg : decode cc pc = .ok (.lreturn, 1)) : W p l e R s m args below meth c H locs cells slots (MQ below (zQl G ad N post) args s cells slots (zA G)) (F0 m pc ls [.long v]) :=
  W.lret hF.1 hF.2.1 hr (fun t ht hW => ⟨⟨v, en, rfl, hp, (show zW G ad en N t t.heap by rw [ht]; exact hZ.1.moved hW.alike)⟩, hZ.2.1.F ht⟩) hZ.2.1.2.2 hdg hlocks
theorem z_vret {post : (Nat → va_E) → Prop} (hF : CallFix p m c cc nL s args zz own) (hr : meth.sig.returnType = none) (hlocks : meth.locks = false) (hZ : zH G ad en N s H locs) (hp : post en) (hdg : decode cc pc = .ok (.return_, 1)) : W p l e R s m args below meth c H locs cells slots (MQ below (zQv G ad N post) args s cells slots (zA G)) (F0 m pc ls []) :=
  W.vret hF.1 hF.2.1 hr (fun t ht hW => ⟨⟨en, rfl, hp, (show zW G ad en N t t.heap by rw [ht]; exact hZ.1.moved hW.alike)⟩, hZ.2.1.F ht⟩) hZ.2.1.2.2 hdg hlocks
theorem z_aret {post : Nat → (Nat → va_E) → Prop} {v : Nat} {rt : FieldType} (hF : CallFix p m c cc nL s args zz own) (hr : meth.sig.returnType = some rt) (hrt : (∃ n, rt = .object n) ∨ ∃ t, rt = .array t) (hlocks : meth.locks = false) (hZ : zH G ad en N s H locs) (hp : post v en) (hdg : decode cc pc = .ok (.areturn, 1)) : W p l e R s m args below meth c H locs cells slots (MQ below (zQr G ad N post) args s cells slots (zA G)) (F0 m pc ls [.ref v]) :=
  W.aret hF.1 hF.2.1 hr hrt (Or.inr ⟨v, rfl⟩) (fun t ht hW => ⟨⟨en, v, rfl, trivial, hp, (show zW G ad en N t t.heap by rw [ht]; exact hZ.1.moved hW.alike)⟩, hZ.2.1.F ht⟩) hZ.2.1.2.2 hdg hlocks
theorem z_top {x y : Int32} (h : x = y) (k : W p l e R s m args below meth c H locs cells slots Q (F0 m pc ls (.int y :: rest))) : W p l e R s m args below meth c H locs cells slots Q (F0 m pc ls (.int x :: rest)) := h ▸ k
theorem z_topl {x y : Int64} (h : x = y) (k : W p l e R s m args below meth c H locs cells slots Q (F0 m pc ls (.long y :: rest))) : W p l e R s m args below meth c H locs cells slots Q (F0 m pc ls (.long x :: rest)) := h ▸ k
/-- the world by another name -/
theorem zH.to {en1 : Nat → va_E} (hZ : zH G ad en N s H locs) (h : en = en1) : zH G ad en1 N s H locs := h ▸ hZ
end Z
theorem iinc_p (j : Nat) : nI j + Int32.ofInt 1 = nI (j + 1) := nI_1 j
theorem iinc_m (j : Nat) : iv (j + 1) + Int32.ofInt (-1) = iv j := by
  rw [iv_s]
  unfold iv
  rw [show Int32.ofInt (-1) = -1 by decide, Int32.sub_eq_add_neg]
theorem iinc_q (j : Nat) : nI (j + 1) + Int32.ofInt (-1) = nI j := pk_m1 j
theorem three_p (j : Nat) : nI j + Int32.ofInt 3 = nI (j + 3) := nI_add j 3
section ZM
variable {l : Launch} {y : MethodName} {b : ByteArray} {n d : Nat} {G : zG} {ad : Nat → Nat} {en : Nat → va_E} {N : Nat} {as : List Value}
/-- a contract out of a walk from the entry -/
theorem z_met {r : Option FieldType} {Qc : Array Value → State → Outcome → State → Prop} (hy : plainName y.cls = true) (hlen : (lg_sl as).length ≤ n)
    (body : ∀ (p : Program) (e : Env) (s : State) (m : MethodId) (below : List Frame) (meth : Method) (c : Code) (ls : Array Slot), CallFix p m c b n s as.toArray zz y.cls → meth.sig.returnType = r → meth.locks = false → meth.name = y.name → zH G ad en N s s.heap [] → lv_has ls n (lv_args 0 as) → W p l e (zR d) s m as.toArray below meth c s.heap [] 0 0 (MQ below Qc as.toArray s 0 0 (zA G)) (F0 m 0 ls [])) :
    Met l y (.code y b n r :: zz) (zR d) (zP G ad en N as) Qc 0 0 (zA G) := by
  refine Met.ofW (cc := b) (maxL := n) (ret := r) hy rfl ?_
  intro p e s m args below meth c s₁ B hml hv
  obtain ⟨rfl, hW⟩ := hv
  have hts := atoms_spec (ws := .code y b n r :: zz) B.pre
  have hl := lv_entry as hlen
  rw [lg_entry_eq]
  exact body p e s m below meth c _ ⟨B.exec, B.bytes, hml, findClass_of_methodNamed B.named, fun w hw => hts w (List.mem_cons_of_mem _ hw)⟩ B.returns B.notSynchronized (name_of_methodNamed B.named B.method).1 (zH.start hW) hl
end ZM
