/-! pure: the different lists that are left when letters are taken out -/
def dr_L (t : List Nat) : Nat → Nat → List Nat
  | 0, 0 => [0]
  | 0, _ + 1 => []
  | e + 1, 0 => dr_L t e 0
  | e + 1, r + 1 => dr_L t e (r + 1) ++ (dr_L t e r).map (fun c => 32 * c + (t.getD e 0 + 1))
theorem dr_L0 (t : List Nat) : ∀ e, dr_L t e 0 = [0]
  | 0 => rfl
  | e + 1 => by rw [dr_L]; exact dr_L0 t e
def dr_ch : Nat → Nat → Nat
  | _, 0 => 1
  | 0, _ + 1 => 0
  | e + 1, r + 1 => dr_ch e (r + 1) + dr_ch e r
theorem dr_len (t : List Nat) : ∀ e r, (dr_L t e r).length = dr_ch e r
  | 0, 0 => rfl
  | 0, _ + 1 => rfl
  | e + 1, 0 => by rw [dr_L0]; cases e <;> rfl
  | e + 1, r + 1 => by rw [dr_L, List.length_append, List.length_map, dr_len t e (r + 1), dr_len t e r]; rfl
theorem dr_252 : ∀ e, e < 11 → ∀ r, r < 11 → dr_ch e r ≤ 252 := by decide +kernel
theorem dr_mono (t : List Nat) {r c : Nat} : ∀ {p e : Nat}, p ≤ e → c ∈ dr_L t p r → c ∈ dr_L t e r := by
  intro p e
  induction e with
  | zero => intro h hc; cases Nat.le_zero.mp h; exact hc
  | succ e ih =>
    intro h hc
    rcases Nat.lt_or_ge p (e + 1) with a | a
    · have := ih (by omega) hc
      cases r with
      | zero => rw [dr_L]; exact this
      | succ r => rw [dr_L]; exact List.mem_append_left _ this
    · cases Nat.le_antisymm h a; exact hc
theorem dr_tail (t : List Nat) (ht : ∀ i, t.getD i 0 < 26) {a : Nat} (ha : a < 26) (r c : Nat) : ∀ e, 32 * c + (a + 1) ∈ dr_L t e (r + 1) ↔ ∃ p, p < e ∧ t.getD p 0 = a ∧ c ∈ dr_L t p r
  | 0 => by
    constructor
    · intro h; rw [dr_L] at h; cases h
    · rintro ⟨p, h, -⟩; omega
  | e + 1 => by
    rw [dr_L, List.mem_append, dr_tail t ht ha r c e, List.mem_map]
    constructor
    · rintro (⟨p, h1, h2, h3⟩ | ⟨c', h1, h2⟩)
      · exact ⟨p, by omega, h2, h3⟩
      · have := ht e
        have hc : c' = c := by omega
        subst hc
        exact ⟨e, by omega, by omega, h1⟩
    · rintro ⟨p, h1, h2, h3⟩
      rcases Nat.lt_or_ge p e with a | a
      · exact Or.inl ⟨p, a, h2, h3⟩
      · have : p = e := by omega
        subst this
        exact Or.inr ⟨c, h3, by rw [h2]⟩
/-- each once, in the order of their coming -/
def dr_ad (acc : List Nat) (x : Nat) : List Nat := if x ∈ acc then acc else acc ++ [x]
def dr_u (l : List Nat) : List Nat := l.foldl dr_ad []
theorem dr_u_step (l : List Nat) (x : Nat) : dr_u (l ++ [x]) = dr_ad (dr_u l) x := by unfold dr_u; rw [List.foldl_append]; rfl
theorem dr_fold : ∀ (l acc : List Nat), acc.Nodup → (l.foldl dr_ad acc).Nodup ∧ ∀ x, x ∈ l.foldl dr_ad acc ↔ x ∈ acc ∨ x ∈ l
  | [], acc, h => ⟨h, fun x => by simp⟩
  | a :: l, acc, h => by
    rw [List.foldl_cons]
    have h2 : (dr_ad acc a).Nodup ∧ ∀ x, x ∈ dr_ad acc a ↔ x ∈ acc ∨ x = a := by
      unfold dr_ad
      by_cases e : a ∈ acc
      · rw [if_pos e]
        exact ⟨h, fun x => ⟨Or.inl, fun q => q.elim id (fun z => z ▸ e)⟩⟩
      · rw [if_neg e]
        refine ⟨?_, fun x => by simp⟩
        rw [List.nodup_append]
        exact ⟨h, by simp, fun x hx y hy hxy => by rw [List.mem_singleton] at hy; subst hy; subst hxy; exact e hx⟩
    obtain ⟨i1, i2⟩ := dr_fold l _ h2.1
    refine ⟨i1, fun x => ?_⟩
    rw [i2 x, h2.2 x, List.mem_cons, or_assoc]
theorem dr_u_nd (l : List Nat) : (dr_u l).Nodup := (dr_fold l [] List.nodup_nil).1
theorem dr_u_mem (l : List Nat) (x : Nat) : x ∈ dr_u l ↔ x ∈ l := by
  have := (dr_fold l [] List.nodup_nil).2 x
  show x ∈ l.foldl dr_ad [] ↔ x ∈ l
  rw [this]; simp
theorem dr_eqlen {a b : List Nat} (ha : a.Nodup) (hb : b.Nodup) (h : ∀ x, x ∈ a ↔ x ∈ b) : a.length = b.length := ((List.perm_ext_iff_of_nodup ha hb).mpr h).length_eq
def dr_K (t : List Nat) (e r : Nat) : Nat := (dr_u (dr_L t e r)).length
theorem dr_u_le (l : List Nat) : (dr_u l).length ≤ l.length := List.Nodup.length_le_of_subset (dr_u_nd l) (fun x hx => (dr_u_mem l x).mp hx)
theorem dr_K_le (t : List Nat) {e r : Nat} (he : e < 11) (hr : r < 11) : dr_K t e r ≤ 252 := Nat.le_trans (dr_u_le _) (by rw [dr_len]; exact dr_252 e he r hr)
theorem dr_K0 (t : List Nat) (e : Nat) : dr_K t e 0 = 1 := by unfold dr_K; rw [dr_L0]; rfl
theorem dr_K00 (t : List Nat) (r : Nat) : dr_K t 0 (r + 1) = 0 := rfl
theorem dr_map_nd {f : Nat → Nat} (hf : ∀ a b, f a = f b → a = b) : ∀ {l : List Nat}, l.Nodup → (l.map f).Nodup
  | [], _ => List.nodup_nil
  | a :: l, h => by
    rw [List.nodup_cons] at h
    rw [List.map_cons, List.nodup_cons]
    refine ⟨fun q => ?_, dr_map_nd hf h.2⟩
    obtain ⟨b, hb, e⟩ := List.mem_map.mp q
    exact h.1 (hf _ _ e ▸ hb)
/-- one letter more: the lists without it, and those that end with it, but for what was there -/
theorem dr_rec (t : List Nat) (ht : ∀ i, t.getD i 0 < 26) (e r : Nat) : ∃ P, dr_K t (e + 1) (r + 1) + P = dr_K t e (r + 1) + dr_K t e r ∧ ((∀ p, p < e → t.getD p 0 ≠ t.getD e 0) → P = 0) ∧ ∀ p, p < e → t.getD p 0 = t.getD e 0 → (∀ q, p < q → q < e → t.getD q 0 ≠ t.getD e 0) → P = dr_K t p r := by
  have ha := ht e
  generalize hae : t.getD e 0 = a at ha ⊢
  let f : Nat → Nat := fun c => 32 * c + (a + 1)
  have hf : ∀ x y, f x = f y → x = y := fun x y h => by have h : 32 * x + (a + 1) = 32 * y + (a + 1) := h; omega
  let inL : Nat → Bool := fun c => decide (f c ∈ dr_L t e (r + 1))
  have hB : ∀ c, c ∈ (dr_u (dr_L t e r)).filter inL ↔ ∃ p, p < e ∧ t.getD p 0 = a ∧ c ∈ dr_L t p r := by
    intro c
    rw [List.mem_filter, dr_u_mem, decide_eq_true_iff]
    show _ ∧ 32 * c + (a + 1) ∈ _ ↔ _
    rw [dr_tail t ht ha]
    constructor
    · exact fun h => h.2
    · rintro ⟨p, h1, h2, h3⟩
      exact ⟨dr_mono t (by omega) h3, p, h1, h2, h3⟩
  have hnB : ((dr_u (dr_L t e r)).filter inL).Nodup := List.Nodup.sublist List.filter_sublist (dr_u_nd _)
  have hnG : ((dr_u (dr_L t e r)).filter (fun c => !inL c)).Nodup := List.Nodup.sublist List.filter_sublist (dr_u_nd _)
  have hsum : ((dr_u (dr_L t e r)).filter inL).length + ((dr_u (dr_L t e r)).filter (fun c => !inL c)).length = (dr_u (dr_L t e r)).length := by
    have := (List.filter_append_perm inL (dr_u (dr_L t e r))).length_eq
    rw [List.length_append] at this
    exact this
  have hX : dr_K t (e + 1) (r + 1) = (dr_u (dr_L t e (r + 1)) ++ ((dr_u (dr_L t e r)).filter (fun c => !inL c)).map f).length := by
    refine dr_eqlen (dr_u_nd _) ?_ (fun x => ?_)
    · rw [List.nodup_append]
      refine ⟨dr_u_nd _, dr_map_nd hf hnG, fun x hx y hy hxy => ?_⟩
      subst hxy
      obtain ⟨c, hc, rfl⟩ := List.mem_map.mp hy
      rw [List.mem_filter] at hc
      rw [dr_u_mem] at hx
      have h2 := hc.2
      simp only [inL, Bool.not_eq_true', decide_eq_false_iff_not] at h2
      exact h2 hx
    · rw [dr_u_mem, dr_L, hae, List.mem_append, List.mem_append, dr_u_mem, List.mem_map, List.mem_map]
      constructor
      · rintro (h | ⟨c, h1, h2⟩)
        · exact Or.inl h
        · by_cases g : x ∈ dr_L t e (r + 1)
          · exact Or.inl g
          · refine Or.inr ⟨c, ?_, h2⟩
            rw [List.mem_filter, dr_u_mem]
            refine ⟨h1, ?_⟩
            simp only [inL, Bool.not_eq_true', decide_eq_false_iff_not]
            intro q
            exact g (h2 ▸ q)
      · rintro (h | ⟨c, h1, h2⟩)
        · exact Or.inl h
        · rw [List.mem_filter, dr_u_mem] at h1
          exact Or.inr ⟨c, h1.1, h2⟩
  rw [List.length_append, List.length_map] at hX
  refine ⟨((dr_u (dr_L t e r)).filter inL).length, ?_, fun hno => ?_, fun p hp hpa hl => ?_⟩
  · rw [hX]
    show _ = (dr_u (dr_L t e (r + 1))).length + (dr_u (dr_L t e r)).length
    omega
  · rw [List.length_eq_zero_iff, List.eq_nil_iff_forall_not_mem]
    intro c hc
    obtain ⟨p, h1, h2, -⟩ := (hB c).mp hc
    exact hno p h1 h2
  · refine dr_eqlen hnB (dr_u_nd _) (fun c => ?_)
    rw [hB c, dr_u_mem]
    constructor
    · rintro ⟨p', h1, h2, h3⟩
      refine dr_mono t ?_ h3
      apply Classical.byContradiction
      intro hgt
      exact hl p' (by omega) h1 h2
    · intro h; exact ⟨p, hp, hpa, h⟩
/-! the sets of places: a number's bits -/
def dr_b : Nat → Nat → Nat
  | 0, _ => 0
  | k + 1, s => dr_b k s + s / 2 ^ k % 2
def dr_c (t : List Nat) : Nat → Nat → Nat
  | 0, _ => 0
  | k + 1, s => if s / 2 ^ k % 2 = 1 then 32 * dr_c t k s + (t.getD k 0 + 1) else dr_c t k s
theorem dr_hi {e k s : Nat} (hk : k < e) : (s + 2 ^ e) / 2 ^ k % 2 = s / 2 ^ k % 2 := by
  have h : 2 ^ e = 2 ^ k * (2 * 2 ^ (e - k - 1)) := by
    rw [← Nat.mul_assoc, ← Nat.pow_succ, ← Nat.pow_add]; congr 1; omega
  rw [h, Nat.add_mul_div_left _ _ (Nat.two_pow_pos k)]; omega
theorem dr_b_hi {e s : Nat} : ∀ k, k ≤ e → dr_b k (s + 2 ^ e) = dr_b k s
  | 0, _ => rfl
  | k + 1, h => by rw [dr_b, dr_b, dr_b_hi k (by omega), dr_hi (by omega)]
theorem dr_c_hi {t : List Nat} {e s : Nat} : ∀ k, k ≤ e → dr_c t k (s + 2 ^ e) = dr_c t k s
  | 0, _ => rfl
  | k + 1, h => by rw [dr_c, dr_c, dr_c_hi k (by omega), dr_hi (by omega)]
theorem dr_b_lo {e s : Nat} (hs : s < 2 ^ e) : ∀ n, dr_b (e + n) s = dr_b e s
  | 0 => rfl
  | n + 1 => by
    rw [← Nat.add_assoc, dr_b, dr_b_lo hs n, Nat.div_eq_of_lt (Nat.lt_of_lt_of_le hs (Nat.pow_le_pow_right (by omega) (by omega)))]; rfl
/-- the lists of the sets below s, one after the other -/
def dr_S (t : List Nat) (e r s : Nat) : List Nat := ((List.range s).filter (fun x => decide (dr_b e x = r))).map (dr_c t e)
theorem dr_S_0 (t : List Nat) (e r : Nat) : dr_S t e r 0 = [] := rfl
theorem dr_S_s (t : List Nat) (e r s : Nat) : dr_S t e r (s + 1) = if dr_b e s = r then dr_S t e r s ++ [dr_c t e s] else dr_S t e r s := by
  unfold dr_S
  rw [List.range_succ, List.filter_append, List.map_append]
  by_cases h : dr_b e s = r
  · rw [if_pos h]; simp [h]
  · rw [if_neg h]; simp [h]
theorem dr_S_all (t : List Nat) : ∀ e r, dr_S t e r (2 ^ e) = dr_L t e r
  | 0, 0 => rfl
  | 0, r + 1 => rfl
  | e + 1, r => by
    have hr : List.range (2 ^ (e + 1)) = List.range (2 ^ e) ++ (List.range (2 ^ e)).map (fun x => x + 2 ^ e) := by
      rw [show 2 ^ (e + 1) = 2 ^ e + 2 ^ e by rw [Nat.pow_succ]; omega, List.range_add]
      congr 1
      exact List.map_congr_left (fun x _ => Nat.add_comm _ _)
    unfold dr_S
    rw [hr, List.filter_append, List.map_append, List.filter_map, List.map_map]
    have h1 : ((List.range (2 ^ e)).filter (fun x => decide (dr_b (e + 1) x = r))).map (dr_c t (e + 1)) = dr_S t e r (2 ^ e) := by
      unfold dr_S
      have : (List.range (2 ^ e)).filter (fun x => decide (dr_b (e + 1) x = r)) = (List.range (2 ^ e)).filter (fun x => decide (dr_b e x = r)) := by
        refine List.filter_congr (fun x hx => ?_)
        rw [dr_b, Nat.div_eq_of_lt (List.mem_range.mp hx)]; simp
      rw [this]
      refine List.map_congr_left (fun x hx => ?_)
      rw [dr_c, Nat.div_eq_of_lt (List.mem_range.mp ((List.mem_filter.mp hx).1)), if_neg (by simp)]
    have one : ∀ x, x < 2 ^ e → (x + 2 ^ e) / 2 ^ e % 2 = 1 := fun x hx => by
      rw [Nat.add_div_right _ (Nat.two_pow_pos e), Nat.div_eq_of_lt hx]
    rw [h1, dr_S_all t e r]
    cases r with
    | zero =>
      have h2 : (List.range (2 ^ e)).filter ((fun x => decide (dr_b (e + 1) x = 0)) ∘ fun x => x + 2 ^ e) = [] := by
        rw [List.filter_eq_nil_iff]
        intro x hx
        simp only [Function.comp, decide_eq_true_iff]
        rw [dr_b, one x (List.mem_range.mp hx)]
        omega
      rw [h2, List.map_nil, List.append_nil, dr_L]
    | succ r =>
      have h2 : (List.range (2 ^ e)).filter ((fun x => decide (dr_b (e + 1) x = r + 1)) ∘ fun x => x + 2 ^ e) = (List.range (2 ^ e)).filter (fun x => decide (dr_b e x = r)) := by
        refine List.filter_congr (fun x hx => ?_)
        simp only [Function.comp]
        rw [dr_b, one x (List.mem_range.mp hx), dr_b_hi e (Nat.le_refl _)]
        exact decide_eq_decide.mpr (by omega)
      rw [h2, dr_L, ← dr_S_all t e r]
      congr 1
      unfold dr_S
      rw [List.map_map]
      refine List.map_congr_left (fun x hx => ?_)
      simp only [Function.comp]
      rw [dr_c, one x (List.mem_range.mp ((List.mem_filter.mp hx).1)), if_pos rfl, dr_c_hi e (Nat.le_refl _)]
theorem dr_c_lt (t : List Nat) (ht : ∀ i, t.getD i 0 < 26) (s : Nat) : ∀ k, dr_c t k s < 32 ^ k
  | 0 => Nat.zero_lt_succ 0
  | k + 1 => by
    have := dr_c_lt t ht s k
    have := ht k
    rw [dr_c, Nat.pow_succ]
    split <;> omega
