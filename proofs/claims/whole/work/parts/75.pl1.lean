section PL1
/-! plans: who can ask, one behind the other. C p q: the question comes to the answer and p can ask it; L q: the lowest that is alike; U: the classes that are used -/
variable {C : Nat → Nat → Bool} {L : Nat → Nat} {nq : Nat}
def pl_low (C : Nat → Nat → Bool) (L : Nat → Nat) (U p : Nat) : Nat → Nat → Option Nat
  | 0, _ => none
  | r + 1, q => if (C p q && !U.testBit (L q)) = true then some q else pl_low C L U p r (q + 1)
abbrev pl_lw (C : Nat → Nat → Bool) (L : Nat → Nat) (nq U p : Nat) : Option Nat := pl_low C L U p nq 0
theorem pl_low_s {U p : Nat} : ∀ (r q x : Nat), pl_low C L U p r q = some x → q ≤ x ∧ x < q + r ∧ C p x = true ∧ U.testBit (L x) = false
  | 0, q, x, h => by cases h
  | r + 1, q, x, h => by
    have e : pl_low C L U p (r + 1) q = if (C p q && !U.testBit (L q)) = true then some q else pl_low C L U p r (q + 1) := rfl
    rw [e] at h
    by_cases c : (C p q && !U.testBit (L q)) = true
    · rw [if_pos c] at h
      cases h
      simp only [Bool.and_eq_true, Bool.not_eq_true'] at c
      exact ⟨Nat.le_refl _, by omega, c.1, c.2⟩
    · rw [if_neg c] at h
      have := pl_low_s r (q + 1) x h
      exact ⟨by omega, by omega, this.2.2⟩
def pl_ok (C : Nat → Nat → Bool) (L : Nat → Nat) (nq : Nat) : List Nat → Nat → Bool
  | [], _ => true
  | p :: l, U => match pl_lw C L nq U p with
    | none => false
    | some q => pl_ok C L nq l (U ||| 2 ^ L q)
def pl_gr (C : Nat → Nat → Bool) (L : Nat → Nat) (nq S : Nat) : List Nat → Nat → Nat
  | [], _ => 0
  | p :: l, U => if S.testBit p = true then (match pl_lw C L nq U p with
    | none => pl_gr C L nq S l U
    | some q => pl_gr C L nq S l (U ||| 2 ^ L q) + 1) else pl_gr C L nq S l U
theorem pl_ok_c {p U : Nat} {l : List Nat} : pl_ok C L nq (p :: l) U = match pl_lw C L nq U p with
    | none => false
    | some q => pl_ok C L nq l (U ||| 2 ^ L q) := rfl
theorem pl_gr_c {p U S : Nat} {l : List Nat} : pl_gr C L nq S (p :: l) U = if S.testBit p = true then (match pl_lw C L nq U p with
    | none => pl_gr C L nq S l U
    | some q => pl_gr C L nq S l (U ||| 2 ^ L q) + 1) else pl_gr C L nq S l U := rfl
theorem pl_gr_sub {S : Nat} : ∀ (l : List Nat) (U : Nat), ∃ l', l'.Sublist l ∧ (∀ p ∈ l', S.testBit p = true) ∧ pl_ok C L nq l' U = true ∧ l'.length = pl_gr C L nq S l U
  | [], U => ⟨[], List.Sublist.refl _, fun _ h => absurd h List.not_mem_nil, rfl, rfl⟩
  | p :: l, U => by
    rw [pl_gr_c]
    by_cases c : S.testBit p = true
    · rw [if_pos c]
      cases hq : pl_lw C L nq U p with
      | none =>
        obtain ⟨l', a1, a2, a3, a4⟩ := pl_gr_sub (S := S) l U
        exact ⟨l', a1.cons p, a2, a3, a4⟩
      | some q =>
        obtain ⟨l', a1, a2, a3, a4⟩ := pl_gr_sub (S := S) l (U ||| 2 ^ L q)
        refine ⟨p :: l', a1.cons_cons p, fun x hx => ?_, ?_, ?_⟩
        · rcases List.mem_cons.mp hx with e | e
          · rw [e]; exact c
          · exact a2 x e
        · rw [pl_ok_c, hq]; exact a3
        · show l'.length + 1 = _
          rw [a4]
    · rw [if_neg c]
      obtain ⟨l', a1, a2, a3, a4⟩ := pl_gr_sub (S := S) l U
      exact ⟨l', a1.cons p, a2, a3, a4⟩
theorem pl_gr_pre {S : Nat} {r : List Nat} : ∀ (l : List Nat) (U : Nat), (∀ p ∈ l, S.testBit p = true) → pl_ok C L nq l U = true → l.length ≤ pl_gr C L nq S (l ++ r) U
  | [], U, _, _ => Nat.zero_le _
  | p :: l, U, hS, hk => by
    rw [pl_ok_c] at hk
    show l.length + 1 ≤ pl_gr C L nq S (p :: (l ++ r)) U
    rw [pl_gr_c, if_pos (hS p List.mem_cons_self)]
    cases hq : pl_lw C L nq U p with
    | none => rw [hq] at hk; exact Bool.noConfusion hk
    | some q =>
      rw [hq] at hk
      have := pl_gr_pre (S := S) (r := r) l (U ||| 2 ^ L q) (fun x hx => hS x (List.mem_cons_of_mem _ hx)) hk
      show l.length + 1 ≤ pl_gr C L nq S (l ++ r) (U ||| 2 ^ L q) + 1
      omega
/-- all of them asked: they can, in this order -/
theorem pl_gr_all {S : Nat} : ∀ (l : List Nat) (U : Nat), (∀ p ∈ l, S.testBit p = true) → (pl_gr C L nq S l U = l.length ↔ pl_ok C L nq l U = true)
  | [], U, _ => ⟨fun _ => rfl, fun _ => rfl⟩
  | p :: l, U, hS => by
    have hr : ∀ x ∈ l, S.testBit x = true := fun x hx => hS x (List.mem_cons_of_mem _ hx)
    rw [pl_gr_c, pl_ok_c, if_pos (hS p List.mem_cons_self)]
    cases hq : pl_lw C L nq U p with
    | none =>
      show pl_gr C L nq S l U = l.length + 1 ↔ false = true
      obtain ⟨l', a1, a2, a3, a4⟩ := pl_gr_sub (C := C) (L := L) (nq := nq) (S := S) l U
      have := a1.length_le
      exact ⟨fun z => by omega, fun z => absurd z (by decide)⟩
    | some q =>
      show pl_gr C L nq S l (U ||| 2 ^ L q) + 1 = l.length + 1 ↔ _
      have := pl_gr_all (S := S) l (U ||| 2 ^ L q) hr
      exact ⟨fun z => this.mp (by omega), fun z => by have := this.mpr z; omega⟩
/-- those not in the set count for nothing -/
theorem pl_gr_fil {S : Nat} : ∀ (l : List Nat) (U : Nat), pl_gr C L nq S l U = pl_gr C L nq S (l.filter (fun p => S.testBit p)) U
  | [], U => rfl
  | p :: l, U => by
    rw [List.filter_cons, pl_gr_c]
    by_cases c : S.testBit p = true
    · rw [if_pos c, if_pos c, pl_gr_c, if_pos c]
      cases hq : pl_lw C L nq U p with
      | none => exact pl_gr_fil l U
      | some q => exact congrArg (· + 1) (pl_gr_fil l (U ||| 2 ^ L q))
    · rw [if_neg c, if_neg c]; exact pl_gr_fil l U
/-! sets of pupils as lists -/
def pl_st : List Nat → Nat
  | [] => 0
  | p :: l => pl_st l ||| 2 ^ p
theorem pl_st_b {i : Nat} : ∀ l : List Nat, (pl_st l).testBit i = true ↔ i ∈ l
  | [] => by
    show (0 : Nat).testBit i = true ↔ i ∈ ([] : List Nat)
    simp
  | p :: l => by
    show (pl_st l ||| 2 ^ p).testBit i = true ↔ i ∈ p :: l
    rw [Nat.testBit_or, Bool.or_eq_true, pl_st_b l, Nat.testBit_two_pow, decide_eq_true_iff, List.mem_cons]
    exact ⟨fun h => by rcases h with h | h; exact Or.inr h; exact Or.inl h.symm, fun h => by rcases h with h | h; exact Or.inr h.symm; exact Or.inl h⟩
theorem pl_st_lt {n : Nat} : ∀ l : List Nat, (∀ x ∈ l, x < n) → pl_st l < 2 ^ n
  | [], _ => Nat.two_pow_pos n
  | p :: l, h => Nat.or_lt_two_pow (pl_st_lt l (fun x hx => h x (List.mem_cons_of_mem _ hx))) (Nat.pow_lt_pow_right (by decide) (h p List.mem_cons_self))
theorem pl_or_tab : ∀ p : Nat, p < 6 → ∀ s : Nat, s < 64 → s.testBit p = false → zpc (s ||| 2 ^ p) = zpc s + 1 ∧ zor (s : Int) (zshl 1 (p : Int)) = ((s ||| 2 ^ p : Nat) : Int) := by decide +kernel
theorem pl_st_c : ∀ l : List Nat, l.Nodup → (∀ x ∈ l, x < 6) → zpc (pl_st l) = l.length
  | [], _, _ => rfl
  | p :: l, hd, h => by
    have h1 := List.nodup_cons.mp hd
    have hr : ∀ x ∈ l, x < 6 := fun x hx => h x (List.mem_cons_of_mem _ hx)
    have hb : (pl_st l).testBit p = false := by
      cases q : (pl_st l).testBit p with
      | false => rfl
      | true => exact absurd ((pl_st_b l).mp q) h1.1
    show zpc (pl_st l ||| 2 ^ p) = l.length + 1
    rw [(pl_or_tab p (h p List.mem_cons_self) _ (pl_st_lt (n := 6) l hr) hb).1, pl_st_c l h1.2 hr]
/-! the orders, the first ones first -/
def pl_df : Nat → List Nat → List (List Nat)
  | 0, _ => [[]]
  | k + 1, rem => rem.flatMap (fun p => (pl_df k (rem.erase p)).map (fun l => p :: l))
theorem pl_df_m : ∀ (k : Nat) (rem l : List Nat), rem.Nodup → (l ∈ pl_df k rem ↔ l.length = k ∧ l.Nodup ∧ ∀ x ∈ l, x ∈ rem)
  | 0, rem, l, _ => by
    show l ∈ [[]] ↔ _
    rw [List.mem_singleton]
    exact ⟨fun h => by rw [h]; exact ⟨rfl, List.nodup_nil, fun _ hx => absurd hx List.not_mem_nil⟩, fun h => List.eq_nil_of_length_eq_zero h.1⟩
  | k + 1, rem, l, hd => by
    show l ∈ rem.flatMap (fun p => (pl_df k (rem.erase p)).map (fun l => p :: l)) ↔ _
    rw [List.mem_flatMap]
    constructor
    · rintro ⟨p, hp, hl⟩
      obtain ⟨l', h1, rfl⟩ := List.mem_map.mp hl
      obtain ⟨a1, a2, a3⟩ := (pl_df_m k (rem.erase p) l' (hd.erase p)).mp h1
      refine ⟨by rw [List.length_cons, a1], List.nodup_cons.mpr ⟨fun z => ?_, a2⟩, fun x hx => ?_⟩
      · exact ((hd.mem_erase_iff).mp (a3 p z)).1 rfl
      · rcases List.mem_cons.mp hx with e | e
        · rw [e]; exact hp
        · exact ((hd.mem_erase_iff).mp (a3 x e)).2
    · rintro ⟨h1, h2, h3⟩
      cases l with
      | nil => cases h1
      | cons p l' =>
        have h4 := List.nodup_cons.mp h2
        refine ⟨p, h3 p List.mem_cons_self, List.mem_map.mpr ⟨l', (pl_df_m k (rem.erase p) l' (hd.erase p)).mpr ⟨by simpa using h1, h4.2, fun x hx => (hd.mem_erase_iff).mpr ⟨fun e => h4.1 (by rw [← e]; exact hx), h3 x (List.mem_cons_of_mem _ hx)⟩⟩, rfl⟩⟩
def pl_of (C : Nat → Nat → Bool) (L : Nat → Nat) (nq : Nat) : Nat → List Nat → Nat → Option (List Nat)
  | 0, _, _ => some []
  | k + 1, rem, U => rem.findSome? (fun p => match pl_lw C L nq U p with
    | none => none
    | some q => (pl_of C L nq k (rem.erase p) (U ||| 2 ^ L q)).map (fun l => p :: l))
theorem pl_of_eq : ∀ (k : Nat) (rem : List Nat) (U : Nat), pl_of C L nq k rem U = (pl_df k rem).find? (fun l => pl_ok C L nq l U)
  | 0, rem, U => rfl
  | k + 1, rem, U => by
    show rem.findSome? _ = (rem.flatMap (fun p => (pl_df k (rem.erase p)).map (fun l => p :: l))).find? _
    rw [List.find?_flatMap]
    congr 1
    funext p
    rw [List.find?_map]
    cases hq : pl_lw C L nq U p with
    | none =>
      have e : ((fun l => pl_ok C L nq l U) ∘ fun l => p :: l) = fun _ => false := by
        funext l
        show pl_ok C L nq (p :: l) U = false
        rw [pl_ok_c, hq]
      rw [e]
      show none = _
      cases hf : (pl_df k (rem.erase p)).find? (fun _ => false) with
      | none => rfl
      | some x => exact absurd (List.find?_some hf) (by decide)
    | some q =>
      have e : ((fun l => pl_ok C L nq l U) ∘ fun l => p :: l) = fun l => pl_ok C L nq l (U ||| 2 ^ L q) := by
        funext l
        show pl_ok C L nq (p :: l) U = _
        rw [pl_ok_c, hq]
      rw [e]
      show (pl_of C L nq k (rem.erase p) (U ||| 2 ^ L q)).map _ = _
      rw [pl_of_eq k]
/-! which sets have an order -/
def pl_ex (C : Nat → Nat → Bool) (L : Nat → Nat) (nq n : Nat) : Nat → Nat → Nat → Nat → Bool
  | 0, who, _, W => W == who
  | k + 1, who, U, W => W == who || ((List.range n).filter (fun p => !who.testBit p)).any (fun p => match pl_lw C L nq U p with
    | none => false
    | some q => pl_ex C L nq n k (who ||| 2 ^ p) (U ||| 2 ^ L q) W)
theorem pl_ex_l {n : Nat} : ∀ (k who U W : Nat), pl_ex C L nq n k who U W = true ↔ ∃ l : List Nat, l.length ≤ k ∧ l.Nodup ∧ (∀ x ∈ l, x < n ∧ who.testBit x = false) ∧ pl_ok C L nq l U = true ∧ W = who ||| pl_st l
  | 0, who, U, W => by
    show (W == who) = true ↔ _
    rw [beq_iff_eq]
    constructor
    · intro h
      refine ⟨[], Nat.le_refl _, List.nodup_nil, fun x hx => absurd hx List.not_mem_nil, rfl, ?_⟩
      rw [h]; show who = who ||| 0; rw [Nat.or_zero]
    · rintro ⟨l, h1, -, -, -, h5⟩
      have := List.eq_nil_of_length_eq_zero (Nat.le_zero.mp h1)
      rw [this] at h5
      rw [h5]; show who ||| 0 = who; rw [Nat.or_zero]
  | k + 1, who, U, W => by
    show (W == who || ((List.range n).filter (fun p => !who.testBit p)).any (fun p => match pl_lw C L nq U p with
      | none => false
      | some q => pl_ex C L nq n k (who ||| 2 ^ p) (U ||| 2 ^ L q) W)) = true ↔ _
    rw [Bool.or_eq_true, beq_iff_eq, List.any_eq_true]
    constructor
    · rintro (h | ⟨p, hp, h⟩)
      · refine ⟨[], Nat.zero_le _, List.nodup_nil, fun x hx => absurd hx List.not_mem_nil, rfl, ?_⟩
        rw [h]; show who = who ||| 0; rw [Nat.or_zero]
      · have hp' := List.mem_filter.mp hp
        have hpn := List.mem_range.mp hp'.1
        have hpw : who.testBit p = false := by simpa using hp'.2
        cases hq : pl_lw C L nq U p with
        | none => rw [hq] at h; exact Bool.noConfusion h
        | some q =>
          rw [hq] at h
          obtain ⟨l, a1, a2, a3, a4, a5⟩ := (pl_ex_l k (who ||| 2 ^ p) (U ||| 2 ^ L q) W).mp h
          have a3' : ∀ x ∈ l, x < n ∧ who.testBit x = false ∧ x ≠ p := fun x hx => by
            have q1 := a3 x hx
            rw [Nat.testBit_or, Bool.or_eq_false_iff, Nat.testBit_two_pow, decide_eq_false_iff_not] at q1
            exact ⟨q1.1, q1.2.1, fun e => q1.2.2 e.symm⟩
          refine ⟨p :: l, by rw [List.length_cons]; omega, List.nodup_cons.mpr ⟨fun z => (a3' p z).2.2 rfl, a2⟩, fun x hx => ?_, by rw [pl_ok_c, hq]; exact a4, ?_⟩
          · rcases List.mem_cons.mp hx with e | e
            · rw [e]; exact ⟨hpn, hpw⟩
            · exact ⟨(a3' x e).1, (a3' x e).2.1⟩
          · rw [a5]
            show who ||| 2 ^ p ||| pl_st l = who ||| (pl_st l ||| 2 ^ p)
            rw [Nat.or_assoc, Nat.or_comm (2 ^ p)]
    · rintro ⟨l, h1, h2, h3, h4, h5⟩
      cases l with
      | nil => exact Or.inl (by rw [h5]; show who ||| 0 = who; rw [Nat.or_zero])
      | cons p l =>
        have h6 := List.nodup_cons.mp h2
        have hp := h3 p List.mem_cons_self
        refine Or.inr ⟨p, List.mem_filter.mpr ⟨List.mem_range.mpr hp.1, by rw [hp.2]; rfl⟩, ?_⟩
        rw [pl_ok_c] at h4
        cases hq : pl_lw C L nq U p with
        | none => rw [hq] at h4; exact Bool.noConfusion h4
        | some q =>
          rw [hq] at h4
          refine (pl_ex_l k (who ||| 2 ^ p) (U ||| 2 ^ L q) W).mpr ⟨l, by rw [List.length_cons] at h1; omega, h6.2, fun x hx => ⟨(h3 x (List.mem_cons_of_mem _ hx)).1, ?_⟩, h4, ?_⟩
          · rw [Nat.testBit_or, (h3 x (List.mem_cons_of_mem _ hx)).2, Nat.testBit_two_pow, Bool.false_or, decide_eq_false_iff_not]
            exact fun e => h6.1 (by rw [e]; exact hx)
          · rw [h5]
            show who ||| (pl_st l ||| 2 ^ p) = who ||| 2 ^ p ||| pl_st l
            rw [Nat.or_assoc, Nat.or_comm (2 ^ p)]
/-! the most of some, over the orders in turn -/
def pl_mo (v : List Nat → Nat) (nb : Int) : List (List Nat) → Int → List Nat → Int × List Nat
  | [], m, b => (m, b)
  | x :: l, m, b => if (if m < (v x : Int) then (v x : Int) else m) < nb then pl_mo v nb l (if m < (v x : Int) then (v x : Int) else m) (if m < (v x : Int) then x else b) else ((if m < (v x : Int) then (v x : Int) else m), (if m < (v x : Int) then x else b))
theorem pl_mo_s {v : List Nat → Nat} {nb : Int} : ∀ (l : List (List Nat)) (m : Int) (b : List Nat), m < nb → (∀ x ∈ l, (v x : Int) ≤ nb) → (m ≤ (pl_mo v nb l m b).1 ∧ ∀ x ∈ l, (v x : Int) ≤ (pl_mo v nb l m b).1) ∧ ((pl_mo v nb l m b).1 = m ∨ ∃ x ∈ l, (v x : Int) = (pl_mo v nb l m b).1) ∧ ((pl_mo v nb l m b).1 = nb → l.find? (fun x => decide ((v x : Int) = nb)) = some (pl_mo v nb l m b).2)
  | [], m, b, hm, _ => ⟨⟨Int.le_refl _, fun x hx => absurd hx List.not_mem_nil⟩, Or.inl rfl, fun h => absurd h (by show ¬ m = nb; omega)⟩
  | x :: l, m, b, hm, hv => by
    have hx := hv x List.mem_cons_self
    have hr : ∀ y ∈ l, (v y : Int) ≤ nb := fun y hy => hv y (List.mem_cons_of_mem _ hy)
    have e : pl_mo v nb (x :: l) m b = if (if m < (v x : Int) then (v x : Int) else m) < nb then pl_mo v nb l (if m < (v x : Int) then (v x : Int) else m) (if m < (v x : Int) then x else b) else ((if m < (v x : Int) then (v x : Int) else m), (if m < (v x : Int) then x else b)) := rfl
    rw [e]
    by_cases c : m < (v x : Int)
    · rw [if_pos c, if_pos c]
      by_cases c2 : (v x : Int) < nb
      · rw [if_pos c2]
        obtain ⟨⟨a1, a2⟩, a3, a4⟩ := pl_mo_s l (v x : Int) x c2 hr
        refine ⟨⟨by omega, fun y hy => ?_⟩, ?_, fun z => ?_⟩
        · rcases List.mem_cons.mp hy with w | w
          · rw [w]; exact a1
          · exact a2 y w
        · rcases a3 with w | ⟨y, y1, y2⟩
          · exact Or.inr ⟨x, List.mem_cons_self, w.symm⟩
          · exact Or.inr ⟨y, List.mem_cons_of_mem _ y1, y2⟩
        · rw [List.find?_cons_of_neg (by simp; omega)]; exact a4 z
      · rw [if_neg c2]
        refine ⟨⟨by show m ≤ (v x : Int); omega, fun y hy => by show (v y : Int) ≤ (v x : Int); have := hv y hy; omega⟩, Or.inr ⟨x, List.mem_cons_self, rfl⟩, fun z => ?_⟩
        rw [List.find?_cons_of_pos (by simp; omega)]
    · rw [if_neg c, if_neg c, if_pos hm]
      obtain ⟨⟨a1, a2⟩, a3, a4⟩ := pl_mo_s l m b hm hr
      refine ⟨⟨a1, fun y hy => ?_⟩, ?_, fun z => ?_⟩
      · rcases List.mem_cons.mp hy with w | w
        · rw [w]; omega
        · exact a2 y w
      · rcases a3 with w | ⟨y, y1, y2⟩
        · exact Or.inl w
        · exact Or.inr ⟨y, List.mem_cons_of_mem _ y1, y2⟩
      · rw [List.find?_cons_of_neg (by simp; omega)]; exact a4 z
/-! all orders of n, and what both sides say of them -/
abbrev pl_pm (n : Nat) : List (List Nat) := pl_df n (List.range n)
theorem pl_pm_m {n : Nat} {l : List Nat} : l ∈ pl_pm n ↔ l.length = n ∧ l.Nodup ∧ ∀ x ∈ l, x < n := by
  rw [pl_df_m n _ l List.nodup_range]
  simp only [List.mem_range]
/-- who is in no list stands behind it -/
theorem pl_full {n : Nat} (l : List Nat) (hd : l.Nodup) (hl : ∀ x ∈ l, x < n) : ∃ r, l ++ r ∈ pl_pm n ∧ ∀ x ∈ r, x ∉ l := by
  refine ⟨(List.range n).filter (fun x => !l.contains x), ?_, fun x hx => ?_⟩
  · have hmem : ∀ x, x ∈ l ++ (List.range n).filter (fun x => !l.contains x) ↔ x < n := fun x => by
      rw [List.mem_append, List.mem_filter, List.mem_range]
      by_cases c : x ∈ l
      · exact ⟨fun _ => hl x c, fun _ => Or.inl c⟩
      · exact ⟨fun h => by rcases h with h | h; exact absurd h c; exact h.1, fun h => Or.inr ⟨h, by simpa using c⟩⟩
    have hnd : (l ++ (List.range n).filter (fun x => !l.contains x)).Nodup := by
      rw [List.nodup_append]
      refine ⟨hd, List.Nodup.sublist List.filter_sublist List.nodup_range, fun a ha b hb e => ?_⟩
      have := (List.mem_filter.mp hb).2
      rw [← e] at this
      simp at this
      exact this ha
    refine pl_pm_m.mpr ⟨?_, hnd, fun x hx => (hmem x).mp hx⟩
    have hp : (l ++ (List.range n).filter (fun x => !l.contains x)).Perm (List.range n) := by
      rw [List.perm_iff_count]
      intro a
      rw [hnd.count, List.nodup_range.count]
      by_cases c : a < n
      · rw [if_pos ((hmem a).mpr c), if_pos (List.mem_range.mpr c)]
      · rw [if_neg (fun z => c ((hmem a).mp z)), if_neg (fun z => c (List.mem_range.mp z))]
    rw [hp.length_eq, List.length_range]
  · have := (List.mem_filter.mp hx).2
    simpa using this
end PL1
