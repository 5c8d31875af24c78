/-! pure: the order of words, the dictionary in order and out of order, places -/
def wd_cd (xs : List Nat) (i : Nat) : Nat := match xs[i]? with
  | some x => x + 1
  | none => 0
theorem wd_cd_in {xs : List Nat} {i : Nat} (h : i < xs.length) : wd_cd xs i = xs.getD i 0 + 1 := by
  unfold wd_cd; rw [List.getD_eq_getElem?_getD, List.getElem?_eq_getElem h]; rfl
theorem wd_cd_out {xs : List Nat} {i : Nat} (h : xs.length ≤ i) : wd_cd xs i = 0 := by
  unfold wd_cd; rw [List.getElem?_eq_none h]
def wd_lt : List Nat → List Nat → Bool
  | _, [] => false
  | [], _ :: _ => true
  | x :: xs, y :: ys => if x = y then wd_lt xs ys else decide (x < y)
theorem wd_lt_nilR (xs : List Nat) : wd_lt xs [] = false := by cases xs <;> rfl
theorem wd_lt_nilL (y : Nat) (ys : List Nat) : wd_lt [] (y :: ys) = true := rfl
theorem wd_lt_cons (x y : Nat) (xs ys : List Nat) : wd_lt (x :: xs) (y :: ys) = if x = y then wd_lt xs ys else decide (x < y) := rfl
theorem wd_dropG {t : List Nat} {i : Nat} (h : i < t.length) : t.drop i = t.getD i 0 :: t.drop (i + 1) := by
  rw [List.drop_eq_getElem_cons h, List.getD_eq_getElem?_getD, List.getElem?_eq_getElem h]; rfl
theorem wd_lt_s (xs ys : List Nat) (i : Nat) : wd_lt (xs.drop i) (ys.drop i) = if wd_cd xs i = wd_cd ys i then wd_lt (xs.drop (i + 1)) (ys.drop (i + 1)) else decide (wd_cd xs i < wd_cd ys i) := by
  rcases Nat.lt_or_ge i xs.length with a | a
  · rcases Nat.lt_or_ge i ys.length with b | b
    · rw [wd_dropG a, wd_dropG b, wd_lt_cons, wd_cd_in a, wd_cd_in b]
      by_cases e : xs.getD i 0 = ys.getD i 0
      · rw [if_pos e, if_pos (by rw [e])]
      · rw [if_neg e, if_neg (by omega)]
        exact decide_eq_decide.mpr (by omega)
    · rw [List.drop_eq_nil_of_le b, wd_lt_nilR, wd_cd_in a, wd_cd_out b, if_neg (by omega)]
      simp
  · rcases Nat.lt_or_ge i ys.length with b | b
    · rw [List.drop_eq_nil_of_le a, wd_dropG b, wd_lt_nilL, wd_cd_out a, wd_cd_in b, if_neg (by omega)]
      simp
    · rw [wd_cd_out a, wd_cd_out b, if_pos rfl, List.drop_eq_nil_of_le b, List.drop_eq_nil_of_le (show ys.length ≤ i + 1 by omega), wd_lt_nilR, wd_lt_nilR]
theorem wd_irr : ∀ xs : List Nat, wd_lt xs xs = false
  | [] => rfl
  | x :: xs => by rw [wd_lt_cons, if_pos rfl]; exact wd_irr xs
theorem wd_trans : ∀ {xs ys zs : List Nat}, wd_lt xs ys = true → wd_lt ys zs = true → wd_lt xs zs = true
  | xs, ys, [], _, h => by rw [wd_lt_nilR] at h; cases h
  | [], ys, z :: zs, _, _ => rfl
  | x :: xs, [], z :: zs, h, _ => by rw [wd_lt_nilR] at h; cases h
  | x :: xs, y :: ys, z :: zs, h1, h2 => by
    rw [wd_lt_cons] at h1 h2 ⊢
    by_cases a : x = y
    · subst a
      rw [if_pos rfl] at h1
      by_cases b : x = z
      · rw [if_pos b] at h2 ⊢; exact wd_trans h1 h2
      · rw [if_neg b] at h2 ⊢; exact h2
    · rw [if_neg a] at h1
      have h1 := of_decide_eq_true h1
      by_cases b : y = z
      · subst b; rw [if_neg a]; exact decide_eq_true h1
      · rw [if_neg b] at h2
        have h2 := of_decide_eq_true h2
        rw [if_neg (by omega)]; exact decide_eq_true (by omega)
theorem wd_tot : ∀ {xs ys : List Nat}, xs ≠ ys → wd_lt xs ys = true ∨ wd_lt ys xs = true
  | [], [], h => absurd rfl h
  | [], _ :: _, _ => Or.inl rfl
  | _ :: _, [], _ => Or.inr rfl
  | x :: xs, y :: ys, h => by
    rw [wd_lt_cons, wd_lt_cons]
    by_cases a : x = y
    · subst a
      rw [if_pos rfl, if_pos rfl]
      exact wd_tot (fun e => h (by rw [e]))
    · rw [if_neg a, if_neg (Ne.symm a)]
      rcases Nat.lt_or_ge x y with b | b
      · exact Or.inl (decide_eq_true b)
      · exact Or.inr (decide_eq_true (by omega))
theorem wd_asym {xs ys : List Nat} (h : wd_lt xs ys = true) : wd_lt ys xs = false := by
  cases e : wd_lt ys xs with
  | false => rfl
  | true => have := wd_trans h e; rw [wd_irr] at this; cases this
abbrev wd_W : Type := List Nat × Nat
/-- which of two words is told first: less far, then more often learned, then the order of words -/
def wd_bt (d : wd_W → Nat) (v w : wd_W) : Bool := if d v = d w then (if v.2 = w.2 then wd_lt v.1 w.1 else decide (w.2 < v.2)) else decide (d v < d w)
theorem wd_bt_irr (d : wd_W → Nat) (v : wd_W) : wd_bt d v v = false := by unfold wd_bt; rw [if_pos rfl, if_pos rfl, wd_irr]
theorem wd_bt_iff (d : wd_W → Nat) (v w : wd_W) : wd_bt d v w = true ↔ d v < d w ∨ (d v = d w ∧ (w.2 < v.2 ∨ (v.2 = w.2 ∧ wd_lt v.1 w.1 = true))) := by
  unfold wd_bt
  by_cases a : d v = d w
  · rw [if_pos a]
    by_cases b : v.2 = w.2
    · rw [if_pos b]
      constructor
      · intro h; exact Or.inr ⟨a, Or.inr ⟨b, h⟩⟩
      · rintro (h | ⟨-, h | ⟨-, h⟩⟩)
        · omega
        · omega
        · exact h
    · rw [if_neg b, decide_eq_true_iff]; omega
  · rw [if_neg a, decide_eq_true_iff]; omega
theorem wd_bt_trans {d : wd_W → Nat} {u v w : wd_W} (h1 : wd_bt d u v = true) (h2 : wd_bt d v w = true) : wd_bt d u w = true := by
  rw [wd_bt_iff] at h1 h2 ⊢
  rcases h1 with a | ⟨a, a2 | ⟨a2, a3⟩⟩ <;> rcases h2 with b | ⟨b, b2 | ⟨b2, b3⟩⟩
  · left; omega
  · left; omega
  · left; omega
  · left; omega
  · right; exact ⟨by omega, Or.inl (by omega)⟩
  · right; exact ⟨by omega, Or.inl (by omega)⟩
  · left; omega
  · right; exact ⟨by omega, Or.inl (by omega)⟩
  · right; exact ⟨by omega, Or.inr ⟨by omega, wd_trans a3 b3⟩⟩
theorem wd_bt_tot {d : wd_W → Nat} {v w : wd_W} (h : v.1 ≠ w.1) : wd_bt d v w = true ∨ wd_bt d w v = true := by
  rw [wd_bt_iff, wd_bt_iff]
  rcases Nat.lt_trichotomy (d v) (d w) with a | a | a
  · exact Or.inl (Or.inl a)
  · rcases Nat.lt_trichotomy v.2 w.2 with b | b | b
    · exact Or.inr (Or.inr ⟨a.symm, Or.inl b⟩)
    · rcases wd_tot h with c | c
      · exact Or.inl (Or.inr ⟨a, Or.inr ⟨b, c⟩⟩)
      · exact Or.inr (Or.inr ⟨a.symm, Or.inr ⟨b.symm, c⟩⟩)
    · exact Or.inl (Or.inr ⟨a, Or.inl b⟩)
  · exact Or.inr (Or.inl a)
theorem wd_cp_lt {α : Type} {p r : α → Bool} : ∀ {l : List α}, (∀ x ∈ l, p x = true → r x = true) → (∃ x, x ∈ l ∧ r x = true ∧ p x = false) → l.countP p < l.countP r
  | [], _, ⟨x, h, _⟩ => by cases h
  | a :: l, h, ⟨x, hx, h1, h2⟩ => by
    have hl : ∀ x ∈ l, p x = true → r x = true := fun x hx => h x (List.mem_cons_of_mem _ hx)
    have hle : l.countP p ≤ l.countP r := List.countP_mono_left hl
    rw [List.countP_cons, List.countP_cons]
    rcases List.mem_cons.mp hx with e | e
    · subst e
      rw [h1, h2]; simp; omega
    · have := wd_cp_lt hl ⟨x, e, h1, h2⟩
      have := h a List.mem_cons_self
      cases pa : p a with
      | false => simp; omega
      | true => rw [this pa]; simp; omega
/-- no two words are told at the same place -/
theorem wd_uniq {l : List wd_W} {d : wd_W → Nat} {q : wd_W → Bool} {v w : wd_W} (hv : v ∈ l) (hw : w ∈ l) (qv : q v = true) (qw : q w = true) (h : l.countP (fun u => q u && wd_bt d u v) = l.countP (fun u => q u && wd_bt d u w)) : v.1 = w.1 := by
  have key : ∀ {v w : wd_W}, v ∈ l → q v = true → wd_bt d v w = true → l.countP (fun u => q u && wd_bt d u v) < l.countP (fun u => q u && wd_bt d u w) := by
    intro v w hv qv hb
    refine wd_cp_lt (fun x _ hx => ?_) ⟨v, hv, ?_, ?_⟩
    · simp only [Bool.and_eq_true] at hx ⊢
      exact ⟨hx.1, wd_bt_trans hx.2 hb⟩
    · simp only [Bool.and_eq_true]; exact ⟨qv, hb⟩
    · rw [wd_bt_irr]; simp
  apply Classical.byContradiction
  intro hne
  rcases wd_bt_tot (d := d) hne with a | a
  · have := key hv qv a; omega
  · have := key hw qw a; omega
/-- the words in their order, each once -/
def wd_so (l : List wd_W) : Prop := l.Pairwise (fun a b => wd_lt a.1 b.1 = true)
theorem wd_rank : ∀ {l : List wd_W} {k : Nat} {w : wd_W}, wd_so l → l[k]? = some w → l.countP (fun v => wd_lt v.1 w.1) = k
  | [], k, w, _, h => by simp at h
  | a :: l, 0, w, hs, h => by
    have hs := List.pairwise_cons.mp hs
    rw [List.getElem?_cons_zero] at h
    cases h
    rw [List.countP_cons, wd_irr]
    have : l.countP (fun v => wd_lt v.1 a.1) = 0 := by
      rw [List.countP_eq_zero]
      intro b hb
      rw [wd_asym (hs.1 b hb)]; simp
    rw [this]; rfl
  | a :: l, k + 1, w, hs, h => by
    have hs := List.pairwise_cons.mp hs
    rw [List.getElem?_cons_succ] at h
    rw [List.countP_cons, wd_rank hs.2 h, hs.1 w (List.mem_of_getElem? h)]
    rfl
theorem wd_once {l : List wd_W} (hs : wd_so l) {i j : Nat} {v w : wd_W} (hi : l[i]? = some v) (hj : l[j]? = some w) (h : v.1 = w.1) : i = j := by
  rw [← wd_rank hs hi, ← wd_rank hs hj, h]
/-- the answer of suggest and of complete -/
def wd_sug (l : List wd_W) (d : wd_W → Nat) (q : wd_W → Bool) (i r : Int32) : Prop := (∃ k v, l[k]? = some v ∧ q v = true ∧ i = nI (l.countP (fun u => q u && wd_bt d u v)) ∧ r = nI k) ∨ (r = -1 ∧ ∀ v ∈ l, q v = true → ¬ i = nI (l.countP (fun u => q u && wd_bt d u v)))
theorem wd_sug_one {l : List wd_W} {d : wd_W → Nat} {q : wd_W → Bool} {i r r' : Int32} (hs : wd_so l) (hl : l.length < 2 ^ 31) (h : wd_sug l d q i r) (h' : wd_sug l d q i r') : r = r' := by
  rcases h with ⟨k, v, h1, h2, h3, h4⟩ | ⟨h1, h2⟩
  · rcases h' with ⟨k', v', g1, g2, g3, g4⟩ | ⟨g1, g2⟩
    · have hv := List.mem_of_getElem? h1
      have hv' := List.mem_of_getElem? g1
      have e : l.countP (fun u => q u && wd_bt d u v) = l.countP (fun u => q u && wd_bt d u v') := by
        have c1 : l.countP (fun u => q u && wd_bt d u v) ≤ l.length := List.countP_le_length
        have c2 : l.countP (fun u => q u && wd_bt d u v') ≤ l.length := List.countP_le_length
        exact (nI_eq (by omega) (by omega)).mp (h3.symm.trans g3)
      have := wd_once hs h1 g1 (wd_uniq hv hv' h2 g2 e)
      rw [h4, g4, this]
    · exact absurd h3 (g2 v (List.mem_of_getElem? h1) h2)
  · rcases h' with ⟨k', v', g1, g2, g3, g4⟩ | ⟨g1, g2⟩
    · exact absurd g3 (h2 v' (List.mem_of_getElem? g1) g2)
    · rw [h1, g1]
/-- a new word at its place -/
theorem wd_ins : ∀ {l : List wd_W} {x : wd_W}, wd_so l → (∀ v ∈ l, v.1 ≠ x.1) → wd_so (l.take (l.countP (fun v => wd_lt v.1 x.1)) ++ x :: l.drop (l.countP (fun v => wd_lt v.1 x.1)))
  | [], x, _, _ => by simp [wd_so]
  | a :: l, x, hs, hn => by
    have hs := List.pairwise_cons.mp hs
    have hn' : ∀ v ∈ l, v.1 ≠ x.1 := fun v hv => hn v (List.mem_cons_of_mem _ hv)
    rcases wd_tot (hn a List.mem_cons_self) with h | h
    · have ih := wd_ins hs.2 hn'
      rw [List.countP_cons, h]
      show wd_so ((a :: l).take (l.countP (fun v => wd_lt v.1 x.1) + 1) ++ x :: (a :: l).drop (l.countP (fun v => wd_lt v.1 x.1) + 1))
      rw [List.take_succ_cons, List.drop_succ_cons, List.cons_append]
      refine List.pairwise_cons.mpr ⟨fun b hb => ?_, ih⟩
      rcases List.mem_append.mp hb with hb | hb
      · exact hs.1 b (List.mem_of_mem_take hb)
      · rcases List.mem_cons.mp hb with rfl | hb
        · exact h
        · exact hs.1 b (List.mem_of_mem_drop hb)
    · have z : (a :: l).countP (fun v => wd_lt v.1 x.1) = 0 := by
        rw [List.countP_eq_zero]
        intro b hb
        rcases List.mem_cons.mp hb with rfl | hb
        · rw [wd_asym h]; simp
        · rw [wd_asym (wd_trans h (hs.1 b hb))]; simp
      rw [z, List.take_zero, List.drop_zero, List.nil_append]
      refine List.pairwise_cons.mpr ⟨fun b hb => ?_, List.pairwise_cons.mpr hs⟩
      rcases List.mem_cons.mp hb with rfl | hb
      · exact h
      · exact wd_trans h (hs.1 b hb)
theorem wd_ins_perm {l m : List wd_W} (h : l.Perm m) (x : wd_W) (p : Nat) : (l.take p ++ x :: l.drop p).Perm (m ++ [x]) := by
  refine List.perm_middle.trans ?_
  rw [List.take_append_drop]
  exact (List.Perm.cons x h).trans (List.perm_append_comm (l₁ := [x]))
theorem wd_er : ∀ {α : Type} {l : List α} {k : Nat} {x : α}, l[k]? = some x → l.Perm (x :: l.eraseIdx k)
  | _, [], k, x, h => by simp at h
  | _, a :: l, 0, x, h => by rw [List.getElem?_cons_zero] at h; cases h; exact List.Perm.refl _
  | _, a :: l, k + 1, x, h => by
    rw [List.getElem?_cons_succ] at h
    rw [List.eraseIdx_cons_succ]
    exact (List.Perm.cons a (wd_er h)).trans (List.Perm.swap x a _)
theorem wd_st : ∀ {α : Type} {l : List α} {k : Nat} (y : α), k < l.length → (l.set k y).Perm (y :: l.eraseIdx k)
  | _, [], k, y, h => by simp at h
  | _, a :: l, 0, y, _ => List.Perm.refl _
  | _, a :: l, k + 1, y, h => by
    rw [List.set_cons_succ, List.eraseIdx_cons_succ]
    exact (List.Perm.cons a (wd_st y (by simpa using h))).trans (List.Perm.swap y a _)
theorem wd_er2 {l m : List wd_W} {k w : Nat} {x : wd_W} (h : l.Perm m) (hl : l[k]? = some x) (hm : m[w]? = some x) : (l.eraseIdx k).Perm (m.eraseIdx w) :=
  List.Perm.cons_inv (a := x) ((wd_er hl).symm.trans (h.trans (wd_er hm)))
theorem wd_lt_of {α : Type} {l : List α} {k : Nat} {x : α} (h : l[k]? = some x) : k < l.length := (List.getElem?_eq_some_iff.mp h).1
theorem wd_set2 {l m : List wd_W} {k w : Nat} {x : wd_W} (y : wd_W) (h : l.Perm m) (hl : l[k]? = some x) (hm : m[w]? = some x) : (l.set k y).Perm (m.set w y) :=
  (wd_st y (wd_lt_of hl)).trans ((List.Perm.cons y (wd_er2 h hl hm)).trans (wd_st y (wd_lt_of hm)).symm)
/-- the last word into the gap, one word fewer -/
def wd_rm (m : List wd_W) (w : Nat) : List wd_W := (m.set w (m.getD (m.length - 1) ([], 0))).take (m.length - 1)
theorem wd_rm_perm {m : List wd_W} {w : Nat} (hw : w < m.length) : (wd_rm m w).Perm (m.eraseIdx w) := by
  obtain ⟨L, b, hm⟩ := (List.eq_nil_or_concat m).resolve_left (fun e => by subst e; simp at hw)
  rw [List.concat_eq_append] at hm
  subst hm
  have hl : (L ++ [b]).length - 1 = L.length := by simp
  have hb : (L ++ [b]).getD L.length ([], 0) = b := by simp
  unfold wd_rm
  rw [hl, hb]
  rcases Nat.lt_or_ge w L.length with a | a
  · rw [List.set_append_left _ _ a, List.take_left' (by simp), List.eraseIdx_append_of_lt_length a]
    exact (wd_st b a).trans (List.perm_append_comm (l₁ := [b]))
  · have e : w = L.length := by simp at hw; omega
    subst e
    rw [List.set_append_right _ _ (Nat.le_refl _), List.take_left' rfl, List.eraseIdx_append_of_length_le (Nat.le_refl _)]
    simp
theorem wd_rm_len (m : List wd_W) (w : Nat) : (wd_rm m w).length = m.length - 1 := by
  unfold wd_rm; rw [List.length_take, List.length_set]; omega
theorem wd_so_er {l : List wd_W} (k : Nat) (h : wd_so l) : wd_so (l.eraseIdx k) := List.Pairwise.sublist (List.eraseIdx_sublist l k) h
theorem wd_so_set {l : List wd_W} {k : Nat} {x y : wd_W} (h : wd_so l) (hk : l[k]? = some x) (e : y.1 = x.1) : wd_so (l.set k y) := by
  have hm : (l.set k y).map Prod.fst = l.map Prod.fst := by
    rw [List.map_set, e]
    apply List.ext_getElem?
    intro i
    by_cases q : i = k
    · subst q
      have hl : i < (l.map Prod.fst).length := by rw [List.length_map]; exact wd_lt_of hk
      rw [List.getElem?_set_self hl, List.getElem?_map, hk]; rfl
    · rw [List.getElem?_set_ne (Ne.symm q)]
  have h1 : (l.map Prod.fst).Pairwise (fun a b => wd_lt a b = true) := List.pairwise_map.mpr h
  rw [← hm] at h1
  exact List.pairwise_map.mp h1
theorem wd_mem {l m : List wd_W} (h : l.Perm m) {w : Nat} {x : wd_W} (hw : m[w]? = some x) : ∃ k : Nat, l[k]? = some x := List.getElem?_of_mem (h.mem_iff.mpr (List.mem_of_getElem? hw))
/-- ranks follow the order of words -/
theorem wd_lt_rank {l : List wd_W} (hs : wd_so l) {a b : Nat} {v w : wd_W} (ha : l[a]? = some v) (hb : l[b]? = some w) : wd_lt v.1 w.1 = decide (a < b) := by
  have key : ∀ {a b : Nat} {v w : wd_W}, l[a]? = some v → l[b]? = some w → a < b → wd_lt v.1 w.1 = true := by
    intro a b v w ha hb hab
    obtain ⟨la, ea⟩ := List.getElem?_eq_some_iff.mp ha
    obtain ⟨lb, eb⟩ := List.getElem?_eq_some_iff.mp hb
    have := List.pairwise_iff_getElem.mp hs a b la lb hab
    rw [ea, eb] at this
    exact this
  rcases Nat.lt_trichotomy a b with h | h | h
  · rw [key ha hb h, decide_eq_true h]
  · subst h
    cases ha.symm.trans hb
    rw [wd_irr, decide_eq_false (by omega)]
  · rw [wd_asym (key hb ha h), decide_eq_false (by omega)]
/-- whatever is told before a word is no farther than it -/
theorem wd_cnt_q {l : List wd_W} {d : wd_W → Nat} {dd : Int32} {v : wd_W} (hd : ∀ u, d u < 2 ^ 30) (hq : nI (d v) ≤ dd) : l.countP (fun u => wd_bt d u v) = l.countP (fun u => decide (nI (d u) ≤ dd) && wd_bt d u v) := by
  refine List.countP_congr (fun u _ => ⟨fun h => ?_, fun h => ?_⟩)
  · have h2 := (wd_bt_iff d u v).mp h
    have hle : d u ≤ d v := by omega
    have h3 : nI (d u) ≤ nI (d v) := nI_le hle (by have := hd v; omega)
    rw [Bool.and_eq_true]
    exact ⟨decide_eq_true (Int32.le_trans h3 hq), h⟩
  · rw [Bool.and_eq_true] at h; exact h.2
