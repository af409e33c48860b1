def zrow (M : zM) (a : Int) (f : Int → Int) : zM := fun x y => if x = a then f y else M x y
def zup (f : Int → Int) (i v : Int) : Int → Int := fun k => if k = i then v else f k
theorem zrow_at {M : zM} {a : Int} {f : Int → Int} (i : Int) : zrow M a f a i = f i := if_pos rfl
theorem zrow_row {M : zM} {a : Int} {f : Int → Int} : zrow M a f a = f := funext fun i => if_pos rfl
theorem zrow_off {M : zM} {a x : Int} {f : Int → Int} (h : x ≠ a) : zrow M a f x = M x := funext fun i => if_neg h
theorem zset_row {M : zM} {a i v : Int} {f : Int → Int} : zset (zrow M a f) a i v = zrow M a (zup f i v) := by
  funext x y
  unfold zset zrow zup
  by_cases h : x = a
  · subst h
    by_cases h2 : y = i
    · subst h2; simp
    · simp [h2]
  · simp [h]
theorem zset_is {M : zM} {a i v : Int} : zset M a i v = zrow M a (zup (M a) i v) := by
  funext x y
  unfold zset zrow zup
  by_cases h : x = a
  · subst h
    by_cases h2 : y = i
    · subst h2; simp
    · simp [h2]
  · simp [h]
theorem zrow_self {M : zM} {a : Int} : zrow M a (M a) = M := by
  funext x y
  unfold zrow
  split
  · rename_i h; rw [h]
  · rfl
theorem zrow_two {M : zM} {a : Int} {f g : Int → Int} : zrow (zrow M a f) a g = zrow M a g := by
  funext x y
  unfold zrow
  split <;> rfl
theorem zup_at (f : Int → Int) (i v : Int) : zup f i v i = v := if_pos rfl
theorem zup_ne {f : Int → Int} {i v k : Int} (h : k ≠ i) : zup f i v k = f k := if_neg h
/-! filling -/
def zfil (f : Int → Int) (v : Int) (n : Int) : Int → Int := fun k => if 0 ≤ k ∧ k < n then v else f k
theorem zfil_up (f : Int → Int) (v : Int) {n : Int} (h : 0 ≤ n) : zup (zfil f v n) n v = zfil f v (n + 1) := by
  funext k
  unfold zup zfil
  by_cases h1 : k = n
  · subst h1; rw [if_pos rfl, if_pos (by omega)]
  · rw [if_neg h1]
    by_cases h2 : 0 ≤ k ∧ k < n
    · rw [if_pos h2, if_pos (by omega)]
    · rw [if_neg h2, if_neg (by omega)]
theorem zfil_0 (f : Int → Int) (v : Int) : zfil f v 0 = f := by
  funext k; unfold zfil; rw [if_neg (by omega)]
section FW
variable {G : zG} {d n : Nat} {M : zM} {Q : zV → zM → Prop}
theorem sw_fill5 (hn : 11 ≤ n) (hW : zW G) {r0 x1 : Int} {nr0 : Nat} (hr0 : zsh r0.toNat = (100, nr0)) (hb : 3 ≤ r0 ∧ r0 ≤ 11) (hlen : nr0 < 100000) (f : Int → Int) : ∀ (k : Nat) (x2 : Int), 0 ≤ x2 → x2 + k = nr0 → Q (9, 0) (zrow M r0 (zfil f x1 nr0)) → Yw n G d mJ7_fill_53178 5 [(2, r0), (0, x1), (0, x2), (0, (nr0 : Int))] [] (zrow M r0 (zfil f x1 x2)) Q
  | 0, x2, h0, h1, h => wJ7_fill_53178_5 hn hW hr0 hb ⟨fun _ => by rw [show x2 = (nr0 : Int) by omega]; exact h, fun q => absurd q (by omega)⟩
  | k + 1, x2, h0, h1, h => wJ7_fill_53178_5 hn hW hr0 hb ⟨fun q => absurd q (by omega), fun q => ⟨⟨h0, q⟩, by omega, by
      rw [zset_row, zfil_up f x1 h0]
      exact sw_fill5 hn hW hr0 hb hlen f k (x2 + 1) (by omega) (by omega) h⟩⟩
theorem sw_fill (hn : 11 ≤ n) (hW : zW G) {r0 x1 : Int} {nr0 : Nat} (hr0 : zsh r0.toNat = (100, nr0)) (hb : 3 ≤ r0 ∧ r0 ≤ 11) (h : Q (9, 0) (zrow M r0 (zfil (M r0) x1 nr0))) : Yw n G d mJ7_fill_53178 0 [(2, r0), (0, x1), (9, 0), (9, 0)] [] M Q := by
  have hlen : nr0 < 100000 := by have q := zsh_small r0.toNat; rw [hr0] at q; exact q
  by_cases h0 : nr0 = 0
  · have := za_of hr0
    exfalso
    have hall : ∀ q : Nat, q < 12 → 3 ≤ q → (zsh q).2 ≠ 0 := by decide +kernel
    exact hall r0.toNat (by omega) (by omega) (by rw [hr0]; exact h0)
  · refine wJ7_fill_53178_0 hn hW hr0 hb ⟨h0, ?_⟩
    have := sw_fill5 (M := M) (Q := Q) (d := d) hn hW hr0 hb hlen (M r0) nr0 0 (by omega) (by omega) h
    rw [zfil_0, zrow_self] at this
    exact this
/-! closing a table, as the class does -/
def zfs (s b i j : Int) (t : Int → Int) : Int → Int :=
  if ¬ t (i * s + b) = -1 ∧ ¬ t (b * s + j) = -1 ∧ (t (i * s + j) = -1 ∨ t (i * s + b) + t (b * s + j) < t (i * s + j)) then zup t (i * s + j) (t (i * s + b) + t (b * s + j)) else t
def zfJ (s b i : Int) : Nat → Int → (Int → Int) → (Int → Int)
  | 0, _, t => t
  | k + 1, j, t => zfJ s b i k (j + 1) (zfs s b i j t)
def zfI (s b : Int) : Nat → Int → (Int → Int) → (Int → Int)
  | 0, _, t => t
  | k + 1, i, t => zfI s b k (i + 1) (zfJ s b i s.toNat 0 t)
def zfB (s : Int) : Nat → Int → (Int → Int) → (Int → Int)
  | 0, _, t => t
  | k + 1, b, t => zfB s k (b + 1) (zfI s b s.toNat 0 t)
def zdg (s : Int) : Nat → Int → (Int → Int) → (Int → Int)
  | 0, _, t => t
  | k + 1, i, t => zdg s k (i + 1) (zup t (i * s + i) 0)
def zcT (s : Int) (t : Int → Int) : Int → Int := zfB s s.toNat 0 (zdg s s.toNat 0 t)
/-- in the middle of a round: the row and the column of b are small, the others at most twice so -/
def zsml (s b B : Int) (t : Int → Int) : Prop := (∀ k, 0 ≤ k → k < s * s → -1 ≤ t k ∧ t k ≤ 2 * B) ∧ (∀ i, 0 ≤ i → i < s → t (i * s + b) ≤ B ∧ t (b * s + i) ≤ B) ∧ t (b * s + b) = 0
theorem zsml_step {s b i j B : Int} {t : Int → Int} (hs : s = 6 ∨ s = 8) (hB : 0 ≤ B) (hb : 0 ≤ b ∧ b < s) (hi : 0 ≤ i ∧ i < s) (hj : 0 ≤ j ∧ j < s) (h : zsml s b B t) : zsml s b B (zfs s b i j t) := by
  unfold zfs
  split
  · rename_i c
    obtain ⟨h1, h2, h3⟩ := h
    have hib := h2 i hi.1 hi.2
    have hjb := h2 j hj.1 hj.2
    rcases hs with rfl | rfl
    all_goals
      have hne : i ≠ b := fun e => by subst e; rw [h3] at c; omega
      have hne2 : j ≠ b := fun e => by subst e; rw [h3] at c; omega
      have b1 := h1 (i * _ + b) (by omega) (by omega)
      have b2 := h1 (b * _ + j) (by omega) (by omega)
      refine ⟨fun k k0 k1 => ?_, fun q q0 q1 => ?_, ?_⟩
      · by_cases e : k = i * _ + j
        · subst e; rw [zup_at]; omega
        · rw [zup_ne e]; exact h1 k k0 k1
      · rw [zup_ne (by omega), zup_ne (by omega)]; exact h2 q q0 q1
      · rw [zup_ne (by omega)]; exact h3
  · exact h
theorem zsml_J {s b i B : Int} (hs : s = 6 ∨ s = 8) (hB : 0 ≤ B) (hb : 0 ≤ b ∧ b < s) (hi : 0 ≤ i ∧ i < s) : ∀ (k : Nat) (j : Int) (t : Int → Int), 0 ≤ j → j + k ≤ s → zsml s b B t → zsml s b B (zfJ s b i k j t)
  | 0, _, _, _, _, h => h
  | k + 1, j, t, h0, h1, h => zsml_J hs hB hb hi k (j + 1) _ (by omega) (by omega) (zsml_step hs hB hb hi ⟨h0, by omega⟩ h)
theorem zsml_I {s b B : Int} (hs : s = 6 ∨ s = 8) (hB : 0 ≤ B) (hb : 0 ≤ b ∧ b < s) : ∀ (k : Nat) (i : Int) (t : Int → Int), 0 ≤ i → i + k ≤ s → zsml s b B t → zsml s b B (zfI s b k i t)
  | 0, _, _, _, _, h => h
  | k + 1, i, t, h0, h1, h => zsml_I hs hB hb k (i + 1) _ (by omega) (by omega) (zsml_J hs hB hb ⟨h0, by omega⟩ s.toNat 0 t (by omega) (by omega) h)
/-- between two rounds -/
def zmid (s B : Int) (t : Int → Int) : Prop := (∀ k, 0 ≤ k → k < s * s → -1 ≤ t k ∧ t k ≤ B) ∧ ∀ i, 0 ≤ i → i < s → t (i * s + i) = 0
theorem zfs_diag {s b i j : Int} {t : Int → Int} (hs : s = 6 ∨ s = 8) (hb : 0 ≤ b ∧ b < s) (hi : 0 ≤ i ∧ i < s) (hj : 0 ≤ j ∧ j < s) (h0 : ∀ k, 0 ≤ k → k < s * s → -1 ≤ t k) (h : ∀ i, 0 ≤ i → i < s → t (i * s + i) = 0) : ∀ q, 0 ≤ q → q < s → zfs s b i j t (q * s + q) = 0 := by
  intro q q0 q1
  unfold zfs
  split
  · rename_i c
    by_cases e : i = j
    · subst e
      have := h i hi.1 hi.2
      rcases hs with rfl | rfl
      all_goals
        have b1 := h0 (i * _ + b) (by omega) (by omega)
        have b2 := h0 (b * _ + i) (by omega) (by omega)
        omega
    · rcases hs with rfl | rfl
      all_goals
        rw [zup_ne (by omega)]; exact h q q0 q1
  · exact h q q0 q1
