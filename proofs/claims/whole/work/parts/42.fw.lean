def zrow (M : zM) (a : Int) (f : Int → Int) : zM := fun x y => if x = a then f y else M x y
def zup (f : Int → Int) (i v : Int) : Int → Int := fun k => if k = i then v else f k
theorem zrow_at {M : zM} {a : Int} {f : Int → Int} (i : Int) : zrow M a f a i = f i := if_pos rfl
theorem zrow_row {M : zM} {a : Int} {f : Int → Int} : zrow M a f a = f := funext fun i => if_pos rfl
theorem zrow_off {M : zM} {a x : Int} {f : Int → Int} (h : x ≠ a) : zrow M a f x = M x := funext fun i => if_neg h
theorem zset_row {M : zM} {a i v : Int} {f : Int → Int} : zset (zrow M a f) a i v = zrow M a (zup f i v) := by
  funext x y
  unfold zset zrow zup
  by_cases h : x = a
  · subst h
    by_cases h2 : y = i
    · subst h2; simp
    · simp [h2]
  · simp [h]
theorem zset_is {M : zM} {a i v : Int} : zset M a i v = zrow M a (zup (M a) i v) := by
  funext x y
  unfold zset zrow zup
  by_cases h : x = a
  · subst h
    by_cases h2 : y = i
    · subst h2; simp
    · simp [h2]
  · simp [h]
theorem zrow_self {M : zM} {a : Int} : zrow M a (M a) = M := by
  funext x y
  unfold zrow
  split
  · rename_i h; rw [h]
  · rfl
theorem zrow_two {M : zM} {a : Int} {f g : Int → Int} : zrow (zrow M a f) a g = zrow M a g := by
  funext x y
  unfold zrow
  split <;> rfl
theorem zup_at (f : Int → Int) (i v : Int) : zup f i v i = v := if_pos rfl
theorem zup_ne {f : Int → Int} {i v k : Int} (h : k ≠ i) : zup f i v k = f k := if_neg h
/-! filling -/
def zfil (f : Int → Int) (v : Int) (n : Int) : Int → Int := fun k => if 0 ≤ k ∧ k < n then v else f k
theorem zfil_up (f : Int → Int) (v : Int) {n : Int} (h : 0 ≤ n) : zup (zfil f v n) n v = zfil f v (n + 1) := by
  funext k
  unfold zup zfil
  by_cases h1 : k = n
  · subst h1; rw [if_pos rfl, if_pos (by omega)]
  · rw [if_neg h1]
    by_cases h2 : 0 ≤ k ∧ k < n
    · rw [if_pos h2, if_pos (by omega)]
    · rw [if_neg h2, if_neg (by omega)]
theorem zfil_0 (f : Int → Int) (v : Int) : zfil f v 0 = f := by
  funext k; unfold zfil; rw [if_neg (by omega)]
section FW
variable {G : zG} {d n : Nat} {M : zM} {Q : zV → zM → Prop}
theorem sw_fill5 (hn : 11 ≤ n) (hW : zW G) {r0 x1 : Int} {nr0 : Nat} (hr0 : zsh r0.toNat = (100, nr0)) (hb : 3 ≤ r0 ∧ r0 ≤ 11) (hlen : nr0 < 100000) (f : Int → Int) : ∀ (k : Nat) (x2 : Int), 0 ≤ x2 → x2 + k = nr0 → Q (9, 0) (zrow M r0 (zfil f x1 nr0)) → Yw n G d mJ7_fill_53178 5 [(2, r0), (0, x1), (0, x2), (0, (nr0 : Int))] [] (zrow M r0 (zfil f x1 x2)) Q
  | 0, x2, h0, h1, h => wJ7_fill_53178_5 hn hW hr0 hb ⟨fun _ => by rw [show x2 = (nr0 : Int) by omega]; exact h, fun q => absurd q (by omega)⟩
  | k + 1, x2, h0, h1, h => wJ7_fill_53178_5 hn hW hr0 hb ⟨fun q => absurd q (by omega), fun q => ⟨⟨h0, q⟩, by omega, by
      rw [zset_row, zfil_up f x1 h0]
      exact sw_fill5 hn hW hr0 hb hlen f k (x2 + 1) (by omega) (by omega) h⟩⟩
theorem sw_fill (hn : 11 ≤ n) (hW : zW G) {r0 x1 : Int} {nr0 : Nat} (hr0 : zsh r0.toNat = (100, nr0)) (hb : 3 ≤ r0 ∧ r0 ≤ 11) (h : Q (9, 0) (zrow M r0 (zfil (M r0) x1 nr0))) : Yw n G d mJ7_fill_53178 0 [(2, r0), (0, x1), (9, 0), (9, 0)] [] M Q := by
  have hlen : nr0 < 100000 := by have q := zsh_small r0.toNat; rw [hr0] at q; exact q
  by_cases h0 : nr0 = 0
  · have := za_of hr0
    exfalso
    have hall : ∀ q : Nat, q < 12 → 3 ≤ q → (zsh q).2 ≠ 0 := by decide +kernel
    exact hall r0.toNat (by omega) (by omega) (by rw [hr0]; exact h0)
  · refine wJ7_fill_53178_0 hn hW hr0 hb ⟨h0, ?_⟩
    have := sw_fill5 (M := M) (Q := Q) (d := d) hn hW hr0 hb hlen (M r0) nr0 0 (by omega) (by omega) h
    rw [zfil_0, zrow_self] at this
    exact this
/-! closing a table -/
def zlp {α : Type} (f : Int → α → α) : Nat → Int → α → α
  | 0, _, t => t
  | k + 1, j, t => zlp f k (j + 1) (f j t)
theorem zlp_inv {α : Type} {f : Int → α → α} {P : Int → α → Prop} : ∀ (k : Nat) (j : Int) (t : α), (∀ i t, j ≤ i → i < j + k → P i t → P (i + 1) (f i t)) → P j t → P (j + k) (zlp f k j t)
  | 0, j, t, _, h => by simpa [zlp] using h
  | k + 1, j, t, hf, h => by
    have := zlp_inv (P := P) k (j + 1) (f j t) (fun i t h1 h2 => hf i t (by omega) (by omega)) (hf j t (by omega) (by omega) h)
    rw [show j + ((k + 1 : Nat) : Int) = j + 1 + (k : Int) by omega]
    exact this
theorem zlp_rel {α β : Type} {f : Int → α → α} {g : Int → β → β} {R : Int → α → β → Prop} : ∀ (k : Nat) (j : Int) (t : α) (u : β), (∀ i t u, j ≤ i → i < j + k → R i t u → R (i + 1) (f i t) (g i u)) → R j t u → R (j + k) (zlp f k j t) (zlp g k j u)
  | 0, j, t, u, _, h => by simpa [zlp] using h
  | k + 1, j, t, u, hf, h => by
    have := zlp_rel (R := R) k (j + 1) (f j t) (g j u) (fun i t u h1 h2 => hf i t u (by omega) (by omega)) (hf j t u (by omega) (by omega) h)
    rw [show j + ((k + 1 : Nat) : Int) = j + 1 + (k : Int) by omega]
    exact this
theorem zlp_add {α : Type} {f : Int → α → α} : ∀ (a b : Nat) (j : Int) (t : α), zlp f (a + b) j t = zlp f b (j + a) (zlp f a j t)
  | 0, b, j, t => by simp [zlp]
  | a + 1, b, j, t => by
    rw [show a + 1 + b = (a + b) + 1 by omega]
    show zlp f (a + b) (j + 1) (f j t) = zlp f b (j + ((a + 1 : Nat) : Int)) (zlp f a (j + 1) (f j t))
    rw [zlp_add a b (j + 1) (f j t), show j + ((a + 1 : Nat) : Int) = j + 1 + (a : Int) by omega]
theorem zlp_two {α β : Type} {f : Int → α → α} {g : Int → β → β} {R : Int → α → β → Prop} {s n : Int} (h0 : 0 ≤ n) (hn : n ≤ s) {t : α} {u : β} (h1 : ∀ i t u, 0 ≤ i → i < n → R i t u → R (i + 1) (f i t) (g i u)) (h2 : ∀ i t u, n ≤ i → i < s → R i t u → R (i + 1) (f i t) u) (h : R 0 t u) : R s (zlp f s.toNat 0 t) (zlp g n.toNat 0 u) := by
  have q := zlp_rel (R := R) (f := f) (g := g) n.toNat 0 t u (fun i t u a b => h1 i t u a (by omega)) h
  have e : s.toNat = n.toNat + (s - n).toNat := by omega
  rw [e, zlp_add]
  have q2 := zlp_inv (P := fun i t => R i t (zlp g n.toNat 0 u)) (f := f) (s - n).toNat (0 + (n.toNat : Int)) _ (fun i t a b => h2 i t _ (by omega) (by omega)) q
  rw [show (0 : Int) + (n.toNat : Int) + ((s - n).toNat : Int) = s by omega] at q2
  exact q2
def zfs (s b i j : Int) (t : Int → Int) : Int → Int :=
  if ¬ t (i * s + b) = -1 ∧ ¬ t (b * s + j) = -1 ∧ (t (i * s + j) = -1 ∨ t (i * s + b) + t (b * s + j) < t (i * s + j)) then zup t (i * s + j) (t (i * s + b) + t (b * s + j)) else t
def zms (s b i j : Int) (u : Int → Int) : Int → Int :=
  if u (s * i + b) + u (s * b + j) < u (s * i + j) then zup u (s * i + j) (u (s * i + b) + u (s * b + j)) else u
def zcJ (s b i : Int) (t : Int → Int) : Int → Int := zlp (zfs s b i) s.toNat 0 t
def zcI (s b : Int) (t : Int → Int) : Int → Int := zlp (zcJ s b) s.toNat 0 t
def zcB (s : Int) (t : Int → Int) : Int → Int := zlp (zcI s) s.toNat 0 t
def zcD (s : Int) (t : Int → Int) : Int → Int := zlp (fun i t => zup t (i * s + i) 0) s.toNat 0 t
def zmJ (s n b i : Int) (t : Int → Int) : Int → Int := zlp (zms s b i) n.toNat 0 t
def zmI (s n b : Int) (t : Int → Int) : Int → Int := zlp (zmJ s n b) n.toNat 0 t
def zmB (s n : Int) (t : Int → Int) : Int → Int := zlp (zmI s n) n.toNat 0 t
/-- the class's table beside the model's, in the round of b: the row and the column of b are at most B, all else twice so -/
def zR (s n b B : Int) (t u : Int → Int) : Prop := ∀ x y, 0 ≤ x → x < s → 0 ≤ y → y < s →
  (x < n → y < n → t (x * s + y) = zkn (u (s * x + y)) ∧ 0 ≤ u (s * x + y) ∧ (u (s * x + y) = 100000 ∨ u (s * x + y) ≤ 2 * B) ∧ (x = b ∨ y = b → u (s * x + y) = 100000 ∨ u (s * x + y) ≤ B) ∧ (x = y → u (s * x + y) = 0))
  ∧ ((n ≤ x ∨ n ≤ y) → (x = y → t (x * s + y) = 0) ∧ (x ≠ y → t (x * s + y) = -1))
theorem zix {s i j : Int} (hs : s = 6 ∨ s = 8) (hi : 0 ≤ i ∧ i < s) (hj : 0 ≤ j ∧ j < s) : 0 ≤ i * s ∧ i * s ≤ 56 ∧ 0 ≤ i * s + j ∧ i * s + j < s * s ∧ s * s ≤ 64 := by rcases hs with rfl | rfl <;> omega
theorem zij {s i j x y : Int} (hs : s = 6 ∨ s = 8) (hj : 0 ≤ j ∧ j < s) (hy : 0 ≤ y ∧ y < s) (h : x * s + y = i * s + j) : x = i ∧ y = j := by rcases hs with rfl | rfl <;> omega
theorem zij2 {s i j x y : Int} (hs : s = 6 ∨ s = 8) (hj : 0 ≤ j ∧ j < s) (hy : 0 ≤ y ∧ y < s) (h : s * x + y = s * i + j) : x = i ∧ y = j := by rcases hs with rfl | rfl <;> omega
theorem zkn_lo {v : Int} (h : v < 100000) : zkn v = v := by unfold zkn; exact if_neg (by omega)
theorem zkn_hi {v : Int} (h : 100000 ≤ v) : zkn v = -1 := by unfold zkn; exact if_pos h
theorem zR_step {s n b i j B : Int} {t u : Int → Int} (hs : s = 6 ∨ s = 8) (hB : 0 ≤ B ∧ B ≤ 40000) (hn : n ≤ s) (hb : 0 ≤ b ∧ b < n) (hi : 0 ≤ i ∧ i < n) (hj : 0 ≤ j ∧ j < n) (h : zR s n b B t u) : zR s n b B (zfs s b i j t) (zms s b i j u) := by
  obtain ⟨f1, f2, f3, f4, f5⟩ := (h i b (by omega) (by omega) (by omega) (by omega)).1 (by omega) (by omega)
  obtain ⟨g1, g2, g3, g4, g5⟩ := (h b j (by omega) (by omega) (by omega) (by omega)).1 (by omega) (by omega)
  obtain ⟨k1, k2, k3, k4, k5⟩ := (h i j (by omega) (by omega) (by omega) (by omega)).1 (by omega) (by omega)
  have f6 := f4 (Or.inr rfl)
  have g6 := g4 (Or.inl rfl)
  by_cases c : u (s * i + b) + u (s * b + j) < u (s * i + j)
  · have e1 : zms s b i j u = zup u (s * i + j) (u (s * i + b) + u (s * b + j)) := if_pos c
    have u1 : u (s * i + b) < 100000 := by omega
    have u2 : u (s * b + j) < 100000 := by omega
    rw [zkn_lo u1] at f1
    rw [zkn_lo u2] at g1
    have e2 : zfs s b i j t = zup t (i * s + j) (u (s * i + b) + u (s * b + j)) := by
      unfold zfs
      rw [f1, g1, k1]
      refine if_pos ⟨by omega, by omega, ?_⟩
      by_cases q : u (s * i + j) < 100000
      · rw [zkn_lo q]; omega
      · rw [zkn_hi (by omega)]; omega
    rw [e1, e2]
    have nib : i ≠ b := by rintro rfl; have := f5 rfl; omega
    have njb : j ≠ b := by rintro rfl; have := g5 rfl; omega
    have nij : i ≠ j := by rintro rfl; have := k5 rfl; omega
    intro x y x0 x1 y0 y1
    by_cases q : x = i ∧ y = j
    · obtain ⟨rfl, rfl⟩ := q
      rw [zup_at, zup_at]
      refine ⟨fun _ _ => ⟨(zkn_lo (by omega)).symm, by omega, by omega, fun w => ?_, fun w => absurd w nij⟩, fun w => by omega⟩
      omega
    · rw [zup_ne (fun w => q (zij hs ⟨by omega, by omega⟩ ⟨y0, y1⟩ w)), zup_ne (fun w => q (zij2 hs ⟨by omega, by omega⟩ ⟨y0, y1⟩ w))]
      exact h x y x0 x1 y0 y1
  · have e1 : zms s b i j u = u := if_neg c
    have e2 : zfs s b i j t = t := by
      unfold zfs
      refine if_neg ?_
      rw [f1, g1, k1]
      rintro ⟨w1, w2, w3⟩
      have u1 : u (s * i + b) < 100000 := Decidable.byContradiction fun w => w1 (zkn_hi (by omega))
      have u2 : u (s * b + j) < 100000 := Decidable.byContradiction fun w => w2 (zkn_hi (by omega))
      rw [zkn_lo u1, zkn_lo u2] at w3
      by_cases q : u (s * i + j) < 100000
      · rw [zkn_lo q] at w3; omega
      · omega
    rw [e1, e2]
    exact h
theorem zR_nop {s n b i j B : Int} {t u : Int → Int} (hb : 0 ≤ b ∧ b < s) (hi : 0 ≤ i ∧ i < s) (hj : 0 ≤ j ∧ j < s) (hc : n ≤ b ∨ n ≤ i ∨ n ≤ j) (h : zR s n b B t u) : zfs s b i j t = t := by
  have a1 := (h i b hi.1 hi.2 hb.1 hb.2).2
  have a2 := (h b j hb.1 hb.2 hj.1 hj.2).2
  have a3 := (h i j hi.1 hi.2 hj.1 hj.2).2
  unfold zfs
  refine if_neg ?_
  rintro ⟨w1, w2, w3⟩
  by_cases c1 : i = b
  · subst c1
    by_cases c2 : i = j
    · subst c2
      have := (a1 (by omega)).1 rfl
      omega
    · have := (a2 (by omega)).2 c2
      omega
  · by_cases c2 : b = j
    · subst c2
      have := (a1 (by omega)).2 c1
      omega
    · by_cases c3 : n ≤ i ∨ n ≤ b
      · have := (a1 (by omega)).2 c1
        omega
      · have := (a2 (by omega)).2 c2
        omega
theorem zR_next {s n b B : Int} {t u : Int → Int} (hB : 0 ≤ B) (h : zR s n b B t u) : zR s n (b + 1) (2 * B) t u := by
  intro x y x0 x1 y0 y1
  obtain ⟨h1, h2⟩ := h x y x0 x1 y0 y1
  refine ⟨fun a c => ?_, h2⟩
  obtain ⟨k1, k2, k3, k4, k5⟩ := h1 a c
  exact ⟨k1, k2, by omega, fun _ => by omega, k5⟩
theorem zR_J {s n b i B : Int} {t u : Int → Int} (hs : s = 6 ∨ s = 8) (hB : 0 ≤ B ∧ B ≤ 40000) (hn : 0 ≤ n ∧ n ≤ s) (hb : 0 ≤ b ∧ b < n) (hi : 0 ≤ i ∧ i < n) (h : zR s n b B t u) : zR s n b B (zcJ s b i t) (zmJ s n b i u) :=
  zlp_two (R := fun _ t u => zR s n b B t u) hn.1 hn.2 (fun j t u j0 j1 q => zR_step hs hB hn.2 hb hi ⟨j0, j1⟩ q) (fun j t u j0 j1 q => by rw [zR_nop (n := n) (by omega) (by omega) (by omega) (by omega) q]; exact q) h
theorem zR_Jn {s n b i B : Int} {t u : Int → Int} (hn : 0 ≤ n) (hb : 0 ≤ b ∧ b < s) (hi : 0 ≤ i ∧ i < s) (hc : n ≤ b ∨ n ≤ i) (h : zR s n b B t u) : zR s n b B (zcJ s b i t) u := by
  have q := zlp_inv (P := fun _ t => zR s n b B t u) (f := zfs s b i) s.toNat 0 t (fun j t j0 j1 q => by rw [zR_nop (n := n) hb hi ⟨j0, by omega⟩ (by omega) q]; exact q) h
  exact q
theorem zR_I {s n b B : Int} {t u : Int → Int} (hs : s = 6 ∨ s = 8) (hB : 0 ≤ B ∧ B ≤ 40000) (hn : 0 ≤ n ∧ n ≤ s) (hb : 0 ≤ b ∧ b < n) (h : zR s n b B t u) : zR s n b B (zcI s b t) (zmI s n b u) :=
  zlp_two (R := fun _ t u => zR s n b B t u) hn.1 hn.2 (fun i t u i0 i1 q => zR_J hs hB hn hb ⟨i0, i1⟩ q) (fun i t u i0 i1 q => zR_Jn hn.1 (by omega) (by omega) (by omega) q) h
theorem zR_In {s n b B : Int} {t u : Int → Int} (hn : 0 ≤ n) (hb : 0 ≤ b ∧ b < s) (hc : n ≤ b) (h : zR s n b B t u) : zR s n b B (zcI s b t) u := by
  have q := zlp_inv (P := fun _ t => zR s n b B t u) (f := zcJ s b) s.toNat 0 t (fun i t i0 i1 q => zR_Jn hn hb ⟨i0, by omega⟩ (by omega) q) h
  exact q
def zpw (i : Int) : Int := 99 * 2 ^ i.toNat
theorem zpw_s {i : Int} (h : 0 ≤ i) : zpw (i + 1) = 2 * zpw i := by
  unfold zpw
  rw [show (i + 1).toNat = i.toNat + 1 by omega, Int.pow_succ]
  omega
theorem zpw_b {i : Int} (h1 : i ≤ 8) : 0 ≤ zpw i ∧ zpw i ≤ 40000 := by
  have : ∀ q : Nat, q < 9 → 0 ≤ (99 : Int) * 2 ^ q ∧ (99 : Int) * 2 ^ q ≤ 40000 := by decide
  exact this i.toNat (by omega)
theorem zR_B {s n : Int} {t u : Int → Int} (hs : s = 6 ∨ s = 8) (hn : 0 ≤ n ∧ n ≤ s) (h : zR s n 0 99 t u) : zR s n s (zpw s) (zcB s t) (zmB s n u) :=
  zlp_two (R := fun b t u => zR s n b (zpw b) t u) hn.1 hn.2 (fun b t u b0 b1 q => by rw [zpw_s b0]; exact zR_next (zpw_b (by omega)).1 (zR_I hs (zpw_b (by omega)) hn ⟨b0, b1⟩ q)) (fun b t u b0 b1 q => by rw [zpw_s (by omega)]; exact zR_next (zpw_b (by omega)).1 (zR_In hn.1 (by omega) b0 q)) h
/-- the diagonal -/
theorem zcD_at {s : Int} {t : Int → Int} (hs : s = 6 ∨ s = 8) {x y : Int} (hx : 0 ≤ x ∧ x < s) (hy : 0 ≤ y ∧ y < s) : zcD s t (x * s + y) = if x = y then 0 else t (x * s + y) := by
  have q := zlp_inv (P := fun i t' => ∀ x y, 0 ≤ x → x < s → 0 ≤ y → y < s → t' (x * s + y) = if x = y ∧ x < i then 0 else t (x * s + y)) (f := fun i t => zup t (i * s + i) 0) s.toNat 0 t
    (fun i t' i0 i1 q x y x0 x1 y0 y1 => by
      by_cases c : x = i ∧ y = i
      · obtain ⟨rfl, rfl⟩ := c
        rw [zup_at, if_pos ⟨rfl, by omega⟩]
      · rw [zup_ne (fun w => c (zij hs ⟨i0, by omega⟩ ⟨y0, y1⟩ w)), q x y x0 x1 y0 y1]
        by_cases c2 : x = y ∧ x < i
        · rw [if_pos c2, if_pos ⟨c2.1, by omega⟩]
        · rw [if_neg c2, if_neg (by omega)])
    (fun x y x0 x1 y0 y1 => by rw [if_neg (by omega)])
  have := q x y hx.1 hx.2 hy.1 hy.2
  refine this.trans ?_
  by_cases c : x = y
  · rw [if_pos c, if_pos ⟨c, by omega⟩]
  · rw [if_neg c, if_neg (by omega)]
/-- tables that are alike where they are looked at -/
def zE (s n : Int) (u v : Int → Int) : Prop := ∀ x y, 0 ≤ x → x < n → 0 ≤ y → y < n → u (s * x + y) = v (s * x + y)
theorem zE_step {s n b i j : Int} {u v : Int → Int} (hs : s = 6 ∨ s = 8) (hn : n ≤ s) (hb : 0 ≤ b ∧ b < n) (hi : 0 ≤ i ∧ i < n) (hj : 0 ≤ j ∧ j < n) (h : zE s n u v) : zE s n (zms s b i j u) (zms s b i j v) := by
  have e1 := h i b hi.1 hi.2 hb.1 hb.2
  have e2 := h b j hb.1 hb.2 hj.1 hj.2
  have e3 := h i j hi.1 hi.2 hj.1 hj.2
  unfold zms
  rw [e1, e2, e3]
  split
  · intro x y x0 x1 y0 y1
    by_cases q : x = i ∧ y = j
    · obtain ⟨rfl, rfl⟩ := q
      rw [zup_at, zup_at]
    · rw [zup_ne (fun w => q (zij2 hs ⟨by omega, by omega⟩ ⟨y0, by omega⟩ w)), zup_ne (fun w => q (zij2 hs ⟨by omega, by omega⟩ ⟨y0, by omega⟩ w))]
      exact h x y x0 x1 y0 y1
  · exact h
theorem zE_B {s n : Int} {u v : Int → Int} (hs : s = 6 ∨ s = 8) (hn : n ≤ s) (h : zE s n u v) : zE s n (zmB s n u) (zmB s n v) := by
  have q := zlp_rel (R := fun _ u v => zE s n u v) (f := zmI s n) (g := zmI s n) n.toNat 0 u v (fun b u v b0 b1 h => by
    have q := zlp_rel (R := fun _ u v => zE s n u v) (f := zmJ s n b) (g := zmJ s n b) n.toNat 0 u v (fun i u v i0 i1 h => by
      have q := zlp_rel (R := fun _ u v => zE s n u v) (f := zms s b i) (g := zms s b i) n.toNat 0 u v (fun j u v j0 j1 h => zE_step hs hn ⟨by omega, by omega⟩ ⟨by omega, by omega⟩ ⟨by omega, by omega⟩ h) h
      exact q) h
    exact q) h
  exact q
end FW
