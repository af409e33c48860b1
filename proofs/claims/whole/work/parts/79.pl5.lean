section PL5
variable {G : zG} {d : Nat} {M : zM} {Q : zV → zM → Prop}
/-! the next order -/
def po_i (g : Int → Int) : Nat → Int → Int
  | 0, i => i
  | r + 1, i => if i < 0 then i else if g (i + 1) < g i then po_i g r (i - 1) else i
def po_k (g : Int → Int) (i : Int) : Nat → Int → Int
  | 0, k => k
  | r + 1, k => if g k < g i then po_k g i r (k - 1) else k
abbrev po_s (g : Int → Int) (i k : Int) : Int → Int := zup (zup g i (g k)) k (g i)
def po_r : Nat → Int → Int → (Int → Int) → Int → Int
  | 0, _, _, g => g
  | r + 1, x, y, g => if x < y then po_r r (x + 1) (y - 1) (po_s g x y) else g
def po_n (n : Int) (g : Int → Int) : Option (Int → Int) := if po_i g 6 (n - 2) < 0 then none else some (po_r 6 (po_i g 6 (n - 2) + 1) (n - 1) (po_s g (po_i g 6 (n - 2)) (po_k g (po_i g 6 (n - 2)) 6 (n - 1))))
abbrev po_a (g g' : Int → Int) : Prop := ∀ k, 0 ≤ k → k < 6 → g k = g' k
theorem po_i_e {g g' : Int → Int} (h : po_a g g') : ∀ (r : Nat) (i : Int), i < 5 → po_i g r i = po_i g' r i
  | 0, i, _ => rfl
  | r + 1, i, hi => by
    show (if i < 0 then i else if g (i + 1) < g i then po_i g r (i - 1) else i) = (if i < 0 then i else if g' (i + 1) < g' i then po_i g' r (i - 1) else i)
    by_cases c : i < 0
    · rw [if_pos c, if_pos c]
    · rw [if_neg c, if_neg c, h i (by omega) (by omega), h (i + 1) (by omega) (by omega), po_i_e h r (i - 1) (by omega)]
theorem po_i_b {g : Int → Int} : ∀ (r : Nat) (i : Int), po_i g r i ≤ i
  | 0, i => Int.le_refl i
  | r + 1, i => by
    show (if i < 0 then i else if g (i + 1) < g i then po_i g r (i - 1) else i) ≤ i
    have := po_i_b (g := g) r (i - 1)
    split
    · omega
    · split <;> omega
theorem po_k_e {g g' : Int → Int} (h : po_a g g') {i : Int} (i0 : 0 ≤ i) : ∀ (r : Nat) (k : Int), i ≤ k → k < 6 → po_k g i r k = po_k g' i r k
  | 0, k, _, _ => rfl
  | r + 1, k, k0, k1 => by
    show (if g k < g i then po_k g i r (k - 1) else k) = (if g' k < g' i then po_k g' i r (k - 1) else k)
    rw [h k (by omega) k1, h i i0 (by omega)]
    by_cases c : g' k < g' i
    · rw [if_pos c, if_pos c]
      have : k ≠ i := fun z => by rw [z] at c; omega
      exact po_k_e h i0 r (k - 1) (by omega) (by omega)
    · rw [if_neg c, if_neg c]
theorem po_k_b {g : Int → Int} {i : Int} : ∀ (r : Nat) (k : Int), i ≤ k → i ≤ po_k g i r k ∧ po_k g i r k ≤ k
  | 0, k, k0 => ⟨k0, Int.le_refl k⟩
  | r + 1, k, k0 => by
    show i ≤ (if g k < g i then po_k g i r (k - 1) else k) ∧ (if g k < g i then po_k g i r (k - 1) else k) ≤ k
    by_cases c : g k < g i
    · rw [if_pos c]
      have : k ≠ i := fun z => by rw [z] at c; omega
      have := po_k_b (g := g) (i := i) r (k - 1) (by omega)
      omega
    · rw [if_neg c]; omega
theorem po_s_e {g g' : Int → Int} (h : po_a g g') {i k : Int} (hi : 0 ≤ i ∧ i < 6) (hk : 0 ≤ k ∧ k < 6) : po_a (po_s g i k) (po_s g' i k) := fun j j0 j1 => by
  unfold po_s zup
  rw [h i hi.1 hi.2, h k hk.1 hk.2, h j j0 j1]
theorem po_r_e : ∀ (r : Nat) (x y : Int) (g g' : Int → Int), 0 ≤ x → y < 6 → po_a g g' → po_a (po_r r x y g) (po_r r x y g')
  | 0, x, y, g, g', _, _, h => h
  | r + 1, x, y, g, g', x0, y1, h => by
    show po_a (if x < y then po_r r (x + 1) (y - 1) (po_s g x y) else g) (if x < y then po_r r (x + 1) (y - 1) (po_s g' x y) else g')
    by_cases c : x < y
    · rw [if_pos c, if_pos c]
      exact po_r_e r (x + 1) (y - 1) _ _ (by omega) (by omega) (po_s_e h (by omega) (by omega))
    · rw [if_neg c, if_neg c]; exact h
theorem po_n_e {g g' : Int → Int} (h : po_a g g') {n : Int} (hn : n ≤ 6) : (po_n n g = none → po_n n g' = none) ∧ ∀ f, po_n n g = some f → ∃ f', po_n n g' = some f' ∧ po_a f f' := by
  unfold po_n
  rw [po_i_e h 6 (n - 2) (by omega)]
  have hb := po_i_b (g := g') 6 (n - 2)
  generalize po_i g' 6 (n - 2) = i at *
  by_cases c : i < 0
  · rw [if_pos c, if_pos c]
    exact ⟨fun _ => rfl, fun f hf => by cases hf⟩
  · rw [if_neg c, if_neg c]
    refine ⟨fun z => absurd z (fun w => by cases w), fun f hf => ⟨_, rfl, ?_⟩⟩
    cases hf
    have kb := po_k_b (g := g') (i := i) 6 (n - 1) (by omega)
    rw [po_k_e h (by omega) 6 (n - 1) (by omega) (by omega)]
    exact po_r_e 6 _ _ _ _ (by omega) (by omega) (po_s_e h (by omega) (by omega))
theorem m_chg (hG : zP G) {g : Int → Int} {i k : Int} (hi : 0 ≤ i ∧ i < 6) (hk : 0 ≤ k ∧ k < 6) (h : Q (9, 0) (zrow M 260 (po_s g i k))) : Y G d mX12_change 0 [(2, 234), (0, i), (0, k), (9, 0)] [] (zrow M 260 g) Q := by
  refine bX12_change_0 hG ⟨hi, hk, hi, hk, ?_⟩
  rw [zrow_at, zrow_at, zset_row, zset_row]
  exact h
theorem m_next (hG : zP G) {n : Int} {g : Int → Int} (hn : M 235 2 = n ∧ 0 ≤ n ∧ n ≤ 6) (h1 : ∀ g', po_n n g = some g' → Q (0, 1) (zrow M 260 g')) (h0 : po_n n g = none → Q (0, 0) (zrow M 260 g)) : Y G (d + 1) mX12_nextOrder 0 [(2, 234), (9, 0), (9, 0), (9, 0), (9, 0), (9, 0)] [] (zrow M 260 g) Q := by
  unfold po_n at h1 h0
  generalize hI : po_i g 6 (n - 2) = I at *
  have lr : ∀ (r : Nat) (x y : Int) (k : Int) (g1 : Int → Int), ¬ I < 0 → 0 ≤ x → x ≤ 7 → y < 6 → y - x + 1 ≤ r → po_r 6 (I + 1) (n - 1) (po_s g I (po_k g I 6 (n - 1))) = po_r r x y g1 → Y G (d + 1) mX12_nextOrder 85 [(2, 234), (0, n), (0, I), (0, k), (0, x), (0, y)] [] (zrow M 260 g1) Q := fun r => by
    induction r with
    | zero =>
      intro x y k g1 hi x0 x7 y1 hr e
      refine bX12_nextOrder_85 hG ⟨fun _ => ?_, fun c => absurd c (by omega)⟩
      have := h1 _ (by rw [if_neg hi])
      rw [e] at this
      exact this
    | succ r ih =>
      intro x y k g1 hi x0 x7 y1 hr e
      have st : po_r (r + 1) x y g1 = if x < y then po_r r (x + 1) (y - 1) (po_s g1 x y) else g1 := rfl
      rw [st] at e
      refine bX12_nextOrder_85 hG ⟨fun c => ?_, fun c => ?_⟩
      · rw [if_neg (by omega)] at e
        have := h1 _ (by rw [if_neg hi])
        rw [e] at this
        exact this
      · rw [if_pos c] at e
        refine m_chg hG (by omega) (by omega) (bX12_nextOrder_100 hG ⟨by omega, by omega, ?_⟩)
        rw [show y + -1 = y - 1 by omega]
        exact ih (x + 1) (y - 1) k _ hi (by omega) (by omega) (by omega) (by omega) e
  have lk : ∀ (r : Nat) (k : Int), 0 ≤ I → I ≤ k → k ≤ n - 1 → k - I + 1 ≤ r → po_k g I 6 (n - 1) = po_k g I r k → Y G (d + 1) mX12_nextOrder 48 [(2, 234), (0, n), (0, I), (0, k), (9, 0), (9, 0)] [] (zrow M 260 g) Q := fun r => by
    induction r with
    | zero => exact fun k i0 k0 k1 hr => absurd hr (by omega)
    | succ r ih =>
      intro k i0 k0 k1 hr e
      have st : po_k g I (r + 1) k = if g k < g I then po_k g I r (k - 1) else k := rfl
      rw [st] at e
      refine bX12_nextOrder_48 hG ?_
      rw [zrow_at, zrow_at]
      refine ⟨by omega, by omega, fun c => ?_, fun c => ⟨by omega, ?_⟩⟩
      · rw [if_neg (by omega)] at e
        refine m_chg hG (by omega) (by omega) (bX12_nextOrder_75 hG ⟨by omega, by omega, ?_⟩)
        exact lr 6 (I + 1) (n - 1) k _ (by omega) (by omega) (by omega) (by omega) (by omega) (by rw [e])
      · rw [if_pos c] at e
        have : k ≠ I := fun z => by rw [z] at c; omega
        rw [show k + -1 = k - 1 by omega]
        exact ih (k - 1) i0 (by omega) (by omega) (by omega) e
  have li : ∀ (r : Nat) (i : Int), -2 ≤ i → i ≤ n - 2 → i + 2 ≤ r → I = po_i g r i → Y G (d + 1) mX12_nextOrder 11 [(2, 234), (0, n), (0, i), (9, 0), (9, 0), (9, 0)] [] (zrow M 260 g) Q := fun r => by
    induction r with
    | zero =>
      intro i i0 i1 hr e
      have e' : I = i := e
      refine bX12_nextOrder_11 hG ⟨fun _ => ⟨fun z => absurd z (by omega), fun _ => h0 (by rw [if_pos (by omega)])⟩, fun z => absurd z (by omega)⟩
    | succ r ih =>
      intro i i0 i1 hr e
      have st : po_i g (r + 1) i = if i < 0 then i else if g (i + 1) < g i then po_i g r (i - 1) else i := rfl
      rw [st] at e
      refine bX12_nextOrder_11 hG ?_
      rw [zrow_at, zrow_at]
      refine ⟨fun c => ⟨fun z => absurd z (by omega), fun _ => ?_⟩, fun c => ⟨by omega, by omega, by omega, fun c2 => ⟨fun _ => ⟨by omega, ?_⟩, fun z => absurd z (by omega)⟩, fun c2 => ⟨by omega, ?_⟩⟩⟩
      · rw [if_pos c] at e
        exact h0 (by rw [if_pos (by omega)])
      · rw [if_neg (by omega), if_neg (by omega)] at e
        rw [← e]
        exact lk 6 (n - 1) (by omega) (by omega) (by omega) (by omega) rfl
      · rw [if_neg (by omega), if_pos c2] at e
        rw [show i + -1 = i - 1 by omega]
        exact ih (i - 1) (by omega) (by omega) (by omega) e
  refine bX12_nextOrder_0 hG ?_
  rw [zrow_off (show (235 : Int) ≠ 260 by decide), hn.1]
  exact ⟨by omega, li 6 (n - 2) (by omega) (by omega) (by omega) hI.symm⟩
/-! all orders, as rows of six -/
def po_f (R : List Nat) : Int → Int := fun k => (R.getD k.toNat 0 : Int)
def po_st (n : Nat) (R : List Nat) (l : List (List Nat)) : Bool := match l with
  | [] => (po_n n (po_f R)).isNone
  | R' :: _ => match po_n n (po_f R) with
    | none => false
    | some g => (List.range 6).all (fun k => g (k : Int) == (R'.getD k 0 : Int))
def po_ch (n : Nat) : List (List Nat) → Bool
  | [] => true
  | R :: l => po_st n R l && po_ch n l
def po_ls (n : Nat) : List (List Nat) := (pl_pm n).map (fun l => l ++ (List.range 6).drop n)
theorem po_all : ∀ n : Nat, n < 7 → po_ch n (po_ls n) = true ∧ (po_ls n).head? = some [0, 1, 2, 3, 4, 5] := by decide +kernel
theorem po_st_n {n : Nat} {R : List Nat} (h : po_st n R [] = true) : po_n n (po_f R) = none := by
  have h' : (po_n n (po_f R)).isNone = true := h
  exact Option.isNone_iff_eq_none.mp h'
theorem po_st_s {n : Nat} {R R' : List Nat} {l : List (List Nat)} (h : po_st n R (R' :: l) = true) : ∃ g, po_n n (po_f R) = some g ∧ po_a g (po_f R') := by
  have h' : (match po_n n (po_f R) with | none => false | some g => (List.range 6).all (fun k => g (k : Int) == (R'.getD k 0 : Int))) = true := h
  cases hq : po_n n (po_f R) with
  | none => rw [hq] at h'; exact Bool.noConfusion h'
  | some g =>
    rw [hq] at h'
    refine ⟨g, rfl, fun k k0 k1 => ?_⟩
    have := List.all_eq_true.mp h' k.toNat (List.mem_range.mpr (by omega))
    rw [beq_iff_eq] at this
    rw [show ((k.toNat : Nat) : Int) = k by omega] at this
    exact this
theorem m_first (hG : zP G) (h : ∀ g, po_a g (po_f [0, 1, 2, 3, 4, 5]) → Q (9, 0) (zrow M 260 g)) : Y G d mX12_firstOrder 0 [(2, 234), (9, 0)] [] M Q := by
  have tab : ∀ k : Nat, k < 6 → po_f [0, 1, 2, 3, 4, 5] (k : Int) = (k : Int) := by decide +kernel
  have lp : ∀ (r k : Nat) (g : Int → Int), k + r = 6 → (∀ j, 0 ≤ j → j < (k : Int) → g j = j) → Y G d mX12_firstOrder 2 [(2, 234), (0, (k : Int))] [] (zrow M 260 g) Q := fun r => by
    induction r with
    | zero =>
      intro k g hk hg
      refine bX12_firstOrder_2 hG ⟨fun _ => h g (fun j j0 j1 => ?_), fun c => absurd c (by omega)⟩
      rw [hg j j0 (by omega)]
      have := tab j.toNat (by omega)
      rw [show ((j.toNat : Nat) : Int) = j by omega] at this
      exact this.symm
    | succ r ih =>
      intro k g hk hg
      refine bX12_firstOrder_2 hG ⟨fun c => absurd c (by omega), fun _ => ⟨by omega, by omega, ?_⟩⟩
      rw [zset_row]
      refine ih (k + 1) _ (by omega) (fun j j0 j1 => ?_)
      by_cases c : j = k
      · rw [c, zup_at]
      · rw [zup_ne c]; exact hg j j0 (by omega)
  have := lp 6 0 (M 260) (by omega) (fun j j0 j1 => absurd j1 (by omega))
  rw [zrow_self] at this
  exact bX12_firstOrder_0 hG this
section MO
variable {C : Nat → Nat → Bool} {L : Nat → Nat} {nq np : Nat}
theorem ml_row (hX : ml_Cx M C L nq np) (g b : Int → Int) : ml_Cx (zrow (zrow M 260 g) 261 b) C L nq np := by
  have o : ∀ a, a ≠ 260 → a ≠ 261 → zrow (zrow M 260 g) 261 b a = M a := fun a h1 h2 => by rw [zrow_off h2, zrow_off h1]
  unfold ml_Cx zmlac
  rw [o 235 (by decide) (by decide), o 259 (by decide) (by decide), o 258 (by decide) (by decide), o 248 (by decide) (by decide)]
  exact hX
theorem m_best (hG : zP G) {S : Nat} (hS : S < 64) {m v : Int} {g : Int → Int} (h : ∀ b, po_a b g → Y G (d + 1) mX12_mostOf 63 [(2, 234), (0, (S : Int)), (0, m), (0, 1), (0, v), (9, 0)] [(0, (zpc S : Int)), (0, m)] (zrow (zrow M 260 g) 261 b) Q) (b : Int → Int) : Y G (d + 1) mX12_mostOf 31 [(2, 234), (0, (S : Int)), (0, m), (0, 1), (0, v), (0, 0)] [] (zrow (zrow M 260 g) 261 b) Q := by
  have lp : ∀ (r k : Nat) (b : Int → Int), k + r = 6 → (∀ j, 0 ≤ j → j < (k : Int) → b j = g j) → Y G (d + 1) mX12_mostOf 31 [(2, 234), (0, (S : Int)), (0, m), (0, 1), (0, v), (0, (k : Int))] [] (zrow (zrow M 260 g) 261 b) Q := fun r => by
    induction r with
    | zero =>
      intro k b hk hb
      refine bX12_mostOf_31 hG ⟨fun _ => s_mbits hG hS ?_, fun c => absurd c (by omega)⟩
      exact z_sub (ls' := [(2, 234), (0, (S : Int)), (0, m), (0, 1), (0, v), (9, 0)]) ⟨Or.inl rfl, Or.inl rfl, Or.inl rfl, Or.inl rfl, Or.inl rfl, Or.inr rfl, trivial⟩ (h b (fun j j0 j1 => hb j j0 (by omega)))
    | succ r ih =>
      intro k b hk hb
      refine bX12_mostOf_31 hG ⟨fun c => absurd c (by omega), fun _ => ⟨by omega, by omega, by omega, ?_⟩⟩
      rw [zrow_off (show (260 : Int) ≠ 261 by decide), zrow_at, zset_row]
      refine ih (k + 1) _ (by omega) (fun j j0 j1 => ?_)
      by_cases c : j = k
      · rw [c, zup_at]
      · rw [zup_ne c]; exact hb j j0 (by omega)
  exact lp 6 0 b (by omega) (fun j j0 j1 => absurd j1 (by omega))
abbrev po_v (C : Nat → Nat → Bool) (L : Nat → Nat) (nq np S : Nat) (R : List Nat) : Nat := pl_gr C L nq S (R.take np) 0
theorem m_mostL (hG : zP G) (hX : ml_Cx M C L nq np) {S : Nat} (hS : S < 64) : ∀ (l : List (List Nat)) (R : List Nat) (g b : Int → Int) (m : Int) (B : List Nat), po_ch np (R :: l) = true → (∀ x ∈ R :: l, x.length = 6 ∧ ∀ y ∈ x.take np, y < np) → po_a g (po_f R) → (0 ≤ m → po_a b (po_f B)) → -1 ≤ m → (∀ g' b', (0 ≤ (pl_mo (po_v C L nq np S) (zpc S) (R :: l) m B).1 → po_a b' (po_f (pl_mo (po_v C L nq np S) (zpc S) (R :: l) m B).2)) → Q (0, (pl_mo (po_v C L nq np S) (zpc S) (R :: l) m B).1) (zrow (zrow M 260 g') 261 b')) → Y G (d + 5) mX12_mostOf 8 [(2, 234), (0, (S : Int)), (0, m), (0, 1), (9, 0), (9, 0)] [] (zrow (zrow M 260 g) 261 b) Q
  | l, R, g, b, m, B, hch, hlen, hg, hb, hm, h => by
    have a := hX.1
    have n6 := hX.2.1
    have h1 := hlen R List.mem_cons_self
    have hch' : po_st np R l = true ∧ po_ch np l = true := by
      have : (po_st np R l && po_ch np l) = true := hch
      exact Bool.and_eq_true_iff.mp this
    have tl : (R.take np).length = np := by rw [List.length_take, h1.1]; omega
    have e : pl_mo (po_v C L nq np S) (zpc S) (R :: l) m B = if (if m < (po_v C L nq np S R : Int) then (po_v C L nq np S R : Int) else m) < (zpc S : Int) then pl_mo (po_v C L nq np S) (zpc S) l (if m < (po_v C L nq np S R : Int) then (po_v C L nq np S R : Int) else m) (if m < (po_v C L nq np S R : Int) then R else B) else ((if m < (po_v C L nq np S R : Int) then (po_v C L nq np S R : Int) else m), (if m < (po_v C L nq np S R : Int) then R else B)) := rfl
    rw [e] at h
    -- behind the look at one order
    have aft : ∀ (m' : Int) (B' : List Nat) (b' : Int → Int) (v : Int), 0 ≤ m' → po_a b' (po_f B') → (∀ g2 b2, (0 ≤ (if m' < (zpc S : Int) then pl_mo (po_v C L nq np S) (zpc S) l m' B' else (m', B')).1 → po_a b2 (po_f (if m' < (zpc S : Int) then pl_mo (po_v C L nq np S) (zpc S) l m' B' else (m', B')).2)) → Q (0, (if m' < (zpc S : Int) then pl_mo (po_v C L nq np S) (zpc S) l m' B' else (m', B')).1) (zrow (zrow M 260 g2) 261 b2)) → Y G (d + 5) mX12_mostOf 63 [(2, 234), (0, (S : Int)), (0, m'), (0, 1), (0, v), (9, 0)] [(0, (zpc S : Int)), (0, m')] (zrow (zrow M 260 g) 261 b') Q := fun m' B' b' v m0 hb' hq => by
      refine bX12_mostOf_63 hG ⟨fun c => ?_, fun c => ?_⟩
      · rw [if_neg (by omega)] at hq
        exact bX12_mostOf_8 hG ⟨fun _ => hq g b' (fun _ => hb'), fun z => absurd rfl z⟩
      · rw [if_pos c] at hq
        have comm : ∀ f, zrow (zrow M 260 f) 261 b' = zrow (zrow M 261 b') 260 f := fun f => by
          funext x y
          unfold zrow
          by_cases c1 : x = 260
          · subst c1; simp
          · by_cases c2 : x = 261
            · subst c2; simp
            · simp [c1, c2]
        rw [comm g]
        refine m_next (d := d + 3) (n := np) hG ⟨by rw [zrow_off (by decide)]; exact a.1, by omega, by omega⟩ (fun g' hg' => bX12_mostOf_70 hG ⟨fun z => absurd z (by decide), fun _ => ?_⟩) (fun hg' => bX12_mostOf_70 hG ⟨fun _ => ?_, fun z => absurd rfl z⟩)
        · rw [← comm g']
          obtain ⟨f', hf1, hf2⟩ := (po_n_e hg (n := np) (by omega)).2 g' hg'
          cases hl : l with
          | nil =>
            rw [hl] at hch'
            rw [po_st_n hch'.1] at hf1
            cases hf1
          | cons R' l' =>
            rw [hl] at hch' hq hlen
            obtain ⟨f2, hs1, hs2⟩ := po_st_s hch'.1
            rw [hs1] at hf1
            cases hf1
            exact m_mostL hG hX hS l' R' g' b' m' B' hch'.2 (fun x hx => hlen x (List.mem_cons_of_mem _ hx)) (fun k k0 k1 => (hf2 k k0 k1).trans (hs2 k k0 k1)) (fun _ => hb') (by omega) hq
        · rw [← comm g]
          have hnn := (po_n_e hg (n := np) (by omega)).1 hg'
          cases hl : l with
          | nil =>
            rw [hl] at hq
            exact bX12_mostOf_8 hG ⟨fun _ => hq g b' (fun _ => hb'), fun z => absurd rfl z⟩
          | cons R' l' =>
            rw [hl] at hch'
            obtain ⟨f2, hs1, hs2⟩ := po_st_s hch'.1
            rw [hs1] at hnn
            cases hnn
    refine bX12_mostOf_8 hG ⟨fun z => absurd z (by decide), fun _ => bX12_canAsk_0 hG ?_⟩
    refine m_canAsk (d := d) hG (ml_row hX g b) hS (R.take np) 0 0 0 (by omega) (fun j hj => ?_) h1.2 (by omega) (by omega) ?_
    · rw [zrow_off (show (260 : Int) ≠ 261 by decide), zrow_at, show ((0 : Nat) : Int) + (j : Int) = (j : Int) by omega, hg j (by omega) (by omega)]
      show ((R.getD (j : Int).toNat 0 : Nat) : Int) = _
      rw [Int.toNat_natCast, List.getD_eq_getElem?_getD, List.getD_eq_getElem?_getD, List.getElem?_take_of_lt (by omega)]
    rw [Nat.zero_add]
    refine bX12_mostOf_17 hG ⟨fun c => ?_, fun c => ?_⟩
    · rw [if_neg (show ¬ m < (po_v C L nq np S R : Int) from Int.not_lt.mpr c)] at h
      rw [if_neg (show ¬ m < (po_v C L nq np S R : Int) from Int.not_lt.mpr c)] at h
      have m0 : 0 ≤ m := Int.le_trans (Int.natCast_nonneg _) c
      exact s_mbits hG hS (aft m B b _ m0 (hb m0) h)
    · rw [if_pos (show m < (po_v C L nq np S R : Int) from c)] at h
      rw [if_pos (show m < (po_v C L nq np S R : Int) from c)] at h
      exact m_best (d := d + 4) hG hS (fun b' hb' => aft _ R b' _ (by omega) (fun k k0 k1 => (hb' k k0 k1).trans (hg k k0 k1)) h) b
termination_by l => l.length
decreasing_by
  rw [hl]
  exact Nat.lt_succ_self _
end MO
end PL5
