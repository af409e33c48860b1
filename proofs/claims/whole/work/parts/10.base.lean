abbrev zM : Type := Int → Int → Int
abbrev zV : Type := Nat × Int

abbrev zG : Type := Launch × va_G × (Nat → ClassId) × Nat × (Nat → Nat) × (Nat → Nat × (Nat → Int32)) × (Int → Int → Int)
abbrev zB (G : zG) : Nat := G.2.2.2.1
abbrev zA (G : zG) : Nat → Prop := fun q => zB G ≤ q
def zref (B : Nat) (v : Int) : Value := if v ≤ 0 then .null else .ref (B + (v - 1).toNat)
def zopt (B : Nat) (v : Int) : Option Nat := if v ≤ 0 then none else some (B + (v - 1).toNat)
theorem z_rfopt (B : Nat) (v : Int) : va_rf (zopt B v) = zref B v := by
  unfold zopt zref; split <;> rfl
def zfv (B : Nat) (t : Nat) (v : Int) : Value := match t with
  | 1 => .long (Int64.ofInt v)
  | 2 => zref B v
  | _ => .int (Int32.ofInt v)
def zcell (G : zG) (M : zM) (o : Nat) : va_E :=
  if (zsh o).1 = 100 then .inl (G.2.2.1 0, (zsh o).2, .inl fun k => Int32.ofInt (M o k))
  else if (zsh o).1 = 101 then .inl (G.2.2.1 1, (zsh o).2, .inr (.inl fun k => Int64.ofInt (M o k)))
  else if (zsh o).1 = 102 then .inl (G.2.2.1 2, (zsh o).2, .inl fun k => Int32.ofInt (M o k))
  else if (zsh o).1 = 103 then .inl (G.2.2.1 3, (zsh o).2, .inr (.inr (.inr (.inr fun k => zopt (zB G) (M o k)))))
  else if (zsh o).1 = 104 then .inl (G.2.2.1 4, (zsh o).2, .inr (.inr (.inr (.inr fun k => zopt (zB G) (M o k)))))
  else .inr ((zsh o).1, (List.range (zsh o).2).map fun k => zfv (zB G) ((zfd (zsh o).1).getD k 0) (M o k))
def ztys (G : zG) : List (ClassId × FieldType) := [(G.2.2.1 0, .int), (G.2.2.1 1, .long), (G.2.2.1 2, .boolean), (G.2.2.1 3, .object "AnswersFirst$Script"), (G.2.2.1 4, .object "AnswersFirst$Nodes")]
def zws (G : zG) (n : Nat) (M : zM) : va_W := (List.range n).map fun i => (zB G + i, zcell G M (i + 1))
def zc (G : zG) (v : zV) : Value := match v with
  | (0, x) => .int (Int32.ofInt x)
  | (1, x) => .long (Int64.ofInt x)
  | (4, x) => .ref (G.2.2.2.2.1 x.toNat)
  | (_, x) => zref (zB G) x
def zin (t : Nat) (v : Int) : Prop := match t with
  | 0 => -2147483648 ≤ v ∧ v ≤ 2147483647
  | 1 => -9223372036854775808 ≤ v ∧ v ≤ 9223372036854775807
  | 3 => 0 ≤ v ∧ v ≤ 1
  | _ => True
def ztyp (a i : Int) : Nat :=
  if (zsh a.toNat).1 = 100 then 0 else if (zsh a.toNat).1 = 101 then 1 else if (zsh a.toNat).1 = 102 then 3
  else if (zsh a.toNat).1 = 103 then 2 else if (zsh a.toNat).1 = 104 then 2 else (zfd (zsh a.toNat).1).getD i.toNat 0
def zokM (M : zM) : Prop := ∀ a i, zin (ztyp a i) (M a i)
abbrev zokL (l : List zV) : Prop := ∀ v ∈ l, zin v.1 v.2
def zfix (G : zG) (M : zM) : Prop := ∀ a i, G.2.2.2.2.2.2 a i ≠ 0 → M a i = G.2.2.2.2.2.2 a i
def zset (M : zM) (a i v : Int) : zM := fun x y => if x = a ∧ y = i then v else M x y
def zas (G : zG) (ls : List zV) : List (Nat × Value) := (List.range ls.length).filterMap fun k => (ls[k]?).bind fun v => if v.1 = 9 then none else some (k, zc G v)
abbrev zL (G : zG) (lsC : Array Slot) (nL : Nat) (ls : List zV) : Prop := lv_has lsC nL (zas G ls)
theorem z_mem_as {G : zG} {ls : List zV} {k : Nat} {w : Value} : (k, w) ∈ zas G ls ↔ ∃ v, ls[k]? = some v ∧ v.1 ≠ 9 ∧ w = zc G v := by
  unfold zas
  rw [List.mem_filterMap]
  constructor
  · rintro ⟨j, -, hj⟩
    cases hv : ls[j]? with
    | none => rw [hv] at hj; cases hj
    | some v =>
      rw [hv] at hj
      by_cases h9 : v.1 = 9
      · simp [h9] at hj
      · simp [h9] at hj
        obtain ⟨rfl, rfl⟩ := hj
        exact ⟨v, hv, h9, rfl⟩
  · rintro ⟨v, hv, h9, rfl⟩
    exact ⟨k, List.mem_range.mpr (List.getElem?_eq_some_iff.mp hv).1, by simp [hv, h9]⟩
theorem z_lat {G : zG} {lsC : Array Slot} {nL k : Nat} {ls : List zV} {v : zV} (h : zL G lsC nL ls) (hk : ls[k]? = some v) (h9 : v.1 ≠ 9) : lsC[k]? = some (.val (zc G v)) :=
  h.2.2 (k, zc G v) (z_mem_as.mpr ⟨v, hk, h9, rfl⟩)
theorem z_zref_cat (B : Nat) (x : Int) : (zref B x).category = 1 := by unfold zref; split <;> rfl
theorem z_cat {G : zG} {v : zV} (h : v.1 ≠ 1) : (zc G v).category = 1 := by
  unfold zc
  split
  · rfl
  · exact absurd rfl h
  · rfl
  · exact z_zref_cat _ _
theorem z_cat2 {G : zG} {x : Int} : (zc G (1, x)).category = 2 := rfl
/-- the store leaves no half of a long behind -/
def zst (ls : List zV) (i : Nat) : Bool := decide (i < ls.length) && (i == 0 || ((ls.getD (i - 1) (9, 0)).1 != 1))
theorem z_store1 {G : zG} {lsC' : Array Slot} {nL i : Nat} {ls : List zV} {v : zV} (hs : zst ls i = true)
    (h : lv_has lsC' nL ((i, zc G v) :: (zas G ls).filter (fun q => !(q.1 == i) && !(q.1 + 1 == i && q.2.category == 2)))) : zL G lsC' nL (ls.set i v) := by
  refine ⟨h.1, h.2.1, ?_⟩
  rintro ⟨k, w⟩ hq
  obtain ⟨u, hu, h9, rfl⟩ := z_mem_as.mp hq
  unfold zst at hs
  simp only [Bool.and_eq_true, decide_eq_true_eq, Bool.or_eq_true, beq_iff_eq, bne_iff_ne, ne_eq] at hs
  by_cases hk : k = i
  · subst hk
    rw [List.getElem?_set_self hs.1] at hu
    cases hu
    exact h.2.2 _ List.mem_cons_self
  · rw [List.getElem?_set_ne (fun e => hk e.symm)] at hu
    refine h.2.2 _ (List.mem_cons_of_mem _ (List.mem_filter.mpr ⟨z_mem_as.mpr ⟨u, hu, h9, rfl⟩, ?_⟩))
    have h1 : (k == i) = false := by simpa using hk
    by_cases h2 : k + 1 = i
    · have h3 : u.1 ≠ 1 := by
        rcases hs.2 with h0 | h0
        · omega
        · rw [← h2] at h0
          simpa [List.getD, hu] using h0
      simp [h1, z_cat h3]
    · simp [h1, h2]
theorem z_store2 {G : zG} {lsC' : Array Slot} {nL i : Nat} {ls : List zV} {v : zV} (hs : zst ls i = true) (hi : i + 1 < ls.length)
    (h : lv_has lsC' nL ((i, zc G v) :: (zas G ls).filter (fun q => !(q.1 == i) && (!(q.1 == i + 1) && !(q.1 + 1 == i && q.2.category == 2))))) : zL G lsC' nL ((ls.set i v).set (i + 1) (9, 0)) := by
  refine ⟨h.1, h.2.1, ?_⟩
  rintro ⟨k, w⟩ hq
  obtain ⟨u, hu, h9, rfl⟩ := z_mem_as.mp hq
  unfold zst at hs
  simp only [Bool.and_eq_true, decide_eq_true_eq, Bool.or_eq_true, beq_iff_eq, bne_iff_ne, ne_eq] at hs
  by_cases hk1 : k = i + 1
  · subst hk1
    rw [List.getElem?_set_self (by simpa using hi)] at hu
    cases hu
    exact absurd rfl h9
  rw [List.getElem?_set_ne (fun e => hk1 e.symm)] at hu
  by_cases hk : k = i
  · subst hk
    rw [List.getElem?_set_self hs.1] at hu
    cases hu
    exact h.2.2 _ List.mem_cons_self
  · rw [List.getElem?_set_ne (fun e => hk e.symm)] at hu
    refine h.2.2 _ (List.mem_cons_of_mem _ (List.mem_filter.mpr ⟨z_mem_as.mpr ⟨u, hu, h9, rfl⟩, ?_⟩))
    have h1 : (k == i) = false := by simpa using hk
    have h1' : (k == i + 1) = false := by simpa using hk1
    by_cases h2 : k + 1 = i
    · have h3 : u.1 ≠ 1 := by
        rcases hs.2 with h0 | h0
        · omega
        · rw [← h2] at h0
          simpa [List.getD, hu] using h0
      simp [h1, h1', z_cat h3]
    · simp [h1, h1', h2]
theorem zws_len (G : zG) (n : Nat) (M : zM) : (zws G n M).length = n := by simp [zws]
theorem zws_get {G : zG} {n i : Nat} {M : zM} (h : i < n) : (zws G n M)[i]? = some (zB G + i, zcell G M (i + 1)) := by
  simp [zws, h]
theorem zws_ext {G : zG} {n : Nat} {M M' : zM} (h : ∀ o, 1 ≤ o → o ≤ n → zcell G M' o = zcell G M o) : zws G n M' = zws G n M := by
  apply List.map_congr_left
  intro i hi
  have := List.mem_range.mp hi
  rw [h (i + 1) (by omega) (by omega)]
theorem zws_set {G : zG} {n i : Nat} {M M' : zM} {e : va_E} (hi : i < n) (he : zcell G M' (i + 1) = e) (ho : ∀ o, 1 ≤ o → o ≠ i + 1 → zcell G M' o = zcell G M o) : (zws G n M).set i (zB G + i, e) = zws G n M' := by
  apply List.ext_getElem?
  intro j
  by_cases hj : j = i
  · subst hj
    rw [List.getElem?_set_self (by rw [zws_len]; exact hi), zws_get hi, he]
  · rw [List.getElem?_set_ne (fun q => hj q.symm)]
    by_cases hn : j < n
    · rw [zws_get hn, zws_get hn, ho (j + 1) (by omega) (by omega)]
    · rw [List.getElem?_eq_none (by rw [zws_len]; omega), List.getElem?_eq_none (by rw [zws_len]; omega)]
theorem zws_push {G : zG} {n : Nat} {M : zM} : zws G n M ++ [(zB G + n, zcell G M (n + 1))] = zws G (n + 1) M := by
  simp [zws, List.range_succ]
theorem zws_D (G : zG) (n : Nat) (M : zM) : va_D (zA G) (zws G n M) := by
  constructor
  · intro i j p q hp hq e
    have h1 : i < n := by have := (List.getElem?_eq_some_iff.mp hp).1; rwa [zws_len] at this
    have h2 : j < n := by have := (List.getElem?_eq_some_iff.mp hq).1; rwa [zws_len] at this
    rw [zws_get h1] at hp
    rw [zws_get h2] at hq
    cases hp; cases hq
    simp only at e
    omega
  · intro k q hq
    have h1 : k < n := by have := (List.getElem?_eq_some_iff.mp hq).1; rwa [zws_len] at this
    rw [zws_get h1] at hq
    cases hq
    show zB G ≤ zB G + k
    omega
theorem zcell_off {G : zG} {M : zM} {a i v : Int} {o : Nat} (h : (o : Int) ≠ a) : zcell G (zset M a i v) o = zcell G M o := by
  have e : ∀ y, zset M a i v (o : Int) y = M o y := fun y => by unfold zset; rw [if_neg (fun q => h q.1)]
  unfold zcell
  split <;> simp [e]
theorem zset_same {M : zM} {a i v : Int} : zset M a i v a i = v := by unfold zset; simp
theorem zset_ne {M : zM} {a i v x y : Int} (h : ¬ (x = a ∧ y = i)) : zset M a i v x y = M x y := by unfold zset; rw [if_neg h]
