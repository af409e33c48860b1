/-! how long it gets -/
def zlm : List znT → Nat
  | [] => 0
  | t :: l => t.2.length + 1 + zlm l
def zln : List znT → Nat
  | [] => 0
  | t :: l => t.2.length + zln l
theorem zln_m : ∀ l, zlm l = zln l + l.length
  | [] => rfl
  | t :: l => by
    show t.2.length + 1 + zlm l = t.2.length + zln l + (l.length + 1)
    rw [zln_m l]; omega
theorem zln_app : ∀ l m, zln (l ++ m) = zln l + zln m
  | [], m => (Nat.zero_add _).symm
  | t :: l, m => by
    show t.2.length + zln (l ++ m) = t.2.length + zln l + zln m
    rw [zln_app l m]; omega
theorem zlm_app (l m : List znT) : zlm (l ++ m) = zlm l + zlm m := by
  rw [zln_m, zln_m, zln_m, zln_app, List.length_append]; omega
theorem zln_perm {l m : List znT} (hp : l.Perm m) : zln l = zln m := by
  induction hp with
  | nil => rfl
  | cons x _ ih => show x.2.length + _ = x.2.length + _; rw [ih]
  | swap x y l => show y.2.length + (x.2.length + _) = x.2.length + (y.2.length + _); omega
  | trans _ _ ih1 ih2 => exact ih1.trans ih2
theorem zlm_perm {l m : List znT} (hp : l.Perm m) : zlm l = zlm m := by rw [zln_m, zln_m, zln_perm hp, hp.length_eq]
theorem zlm_fil {f : znT → Bool} : ∀ l : List znT, zlm (l.filter f) ≤ zlm l ∧ zln (l.filter f) ≤ zln l
  | [] => ⟨Nat.le_refl _, Nat.le_refl _⟩
  | t :: l => by
    obtain ⟨h, h'⟩ := zlm_fil (f := f) l
    rw [List.filter_cons]
    by_cases c : f t = true
    · rw [if_pos c]
      refine ⟨?_, ?_⟩
      · show t.2.length + 1 + _ ≤ t.2.length + 1 + _; omega
      · show t.2.length + _ ≤ t.2.length + _; omega
    · rw [if_neg c]
      refine ⟨?_, ?_⟩
      · show _ ≤ t.2.length + 1 + _; omega
      · show _ ≤ t.2.length + _; omega
theorem zln_map {f : znT → znT} (hf : ∀ p, (f p).2 = p.2) : ∀ l : List znT, zln (l.map f) = zln l ∧ zlm (l.map f) = zlm l
  | [] => ⟨rfl, rfl⟩
  | t :: l => by
    obtain ⟨h, h'⟩ := zln_map hf l
    refine ⟨?_, ?_⟩
    · show (f t).2.length + zln (l.map f) = t.2.length + zln l; rw [hf, h]
    · show (f t).2.length + 1 + zlm (l.map f) = t.2.length + 1 + zlm l; rw [hf, h']
theorem zfm_len2 : ∀ l : List znT, (l.flatMap (fun p => (100 + p.1) :: p.2)).length = zlm l
  | [] => rfl
  | t :: l => by
    rw [List.flatMap_cons, List.length_append, zfm_len2 l]
    show t.2.length + 1 + _ = t.2.length + 1 + _
    rfl
theorem zfm_len : ∀ l : List znT, (l.flatMap (fun p => p.2)).length = zln l
  | [] => rfl
  | t :: l => by
    rw [List.flatMap_cons, List.length_append, zfm_len l]; rfl
theorem znh_len2 {v : Int} {ps : List znT} : (znh 2 v ps).length = 2 + zlm ps := by
  unfold znh
  rw [if_neg (by decide), if_pos rfl, List.length_cons, List.length_cons, zfm_len2]; omega
theorem znh_len3 {v : Int} {ps : List znT} : (znh 3 v ps).length = 2 + zln ps := by
  unfold znh
  rw [if_neg (by decide), if_neg (by decide), if_pos rfl, List.length_cons, List.length_cons, zfm_len]; omega
theorem znh_len {k v : Int} {ps : List znT} (hk : 4 ≤ k) : (znh k v ps).length = (if k = 10 then 2 else 1) + zln ps := by
  unfold znh
  rw [if_neg (by omega), if_neg (by omega), if_neg (by omega)]
  by_cases c : k = 10
  · rw [if_pos c, if_pos c, List.length_cons, List.length_cons, zfm_len]; omega
  · rw [if_neg c, if_neg c, List.length_cons, zfm_len]; omega
theorem znt1_len {k : Int} {ap : Bool} {n : Nat} {t : znT} {a : Int} (h : znk (n + 1) t.2 a) : (k = 2 → zlm (znt1 k ap t) ≤ t.2.length + 1) ∧ (k = 3 → zln (znt1 k ap t) ≤ t.2.length) := by
  unfold znt1
  by_cases c : ap = true ∧ t.2.head? = some k
  · rw [if_pos c]
    obtain ⟨g, ⟨v, e, -⟩, w⟩ := znk_ps h c.2
    obtain ⟨m1, m2⟩ := zln_map (f := fun p => (zbx t.1 p.1, p.2)) (fun p => rfl) (zps t.2)
    rw [m1, m2]
    refine ⟨fun k2 => ?_, fun k3 => ?_⟩
    · subst k2
      have := congrArg List.length e
      rw [znh_len2] at this; omega
    · subst k3
      have := congrArg List.length e
      rw [znh_len3] at this; omega
  · rw [if_neg c]
    exact ⟨fun _ => Nat.le_refl _, fun _ => Nat.le_refl _⟩
theorem znt_len {k : Int} {ap : Bool} {n : Nat} : ∀ (l : List znT) (m : Int), znl (znk (n + 1)) l m → (k = 2 → zlm (znt k ap l) ≤ zlm l) ∧ (k = 3 → zln (znt k ap l) ≤ zln l)
  | [], m, _ => ⟨fun _ => Nat.le_refl _, fun _ => Nat.le_refl _⟩
  | t :: l, m, h => by
    obtain ⟨a, h1, h2⟩ := h
    have x := znt1_len (k := k) (ap := ap) h1
    have y := znt_len (k := k) (ap := ap) l _ h2
    have e : znt k ap (t :: l) = znt1 k ap t ++ znt k ap l := List.flatMap_cons
    rw [e, zlm_app, zln_app]
    refine ⟨fun k2 => ?_, fun k3 => ?_⟩
    · have := x.1 k2; have := y.1 k2
      show _ ≤ t.2.length + 1 + zlm l; omega
    · have := x.2 k3; have := y.2 k3
      show _ ≤ t.2.length + zln l; omega
theorem znS2_len {eq k : Int} {n : Nat} {l : List znT} {m : Int} (h : znl (znk (n + 1)) l m) : (k = 2 → zlm (znS2 eq k l) ≤ zlm l) ∧ (k = 3 → zln (znS2 eq k l) ≤ zln l) := by
  have y := znt_len (k := k) (ap := zbt eq (k - 2)) l _ h
  unfold znS2 znlo
  by_cases c : zbt eq k = true
  · rw [if_pos c]
    have f := zlm_fil (f := fun t => decide (t.2 ≠ [0, k - 2])) (znt k (zbt eq (k - 2)) l)
    exact ⟨fun k2 => Nat.le_trans f.1 (y.1 k2), fun k3 => Nat.le_trans f.2 (y.2 k3)⟩
  · rw [if_neg c]; exact y
theorem znal_len {k : Int} (hk : k = 2 ∨ k = 3) (l : List znT) : (k = 2 → (znal k l).length ≤ 2 + zlm l) ∧ (k = 3 → (znal k l).length ≤ 2 + zln l) := by
  have whole : (k = 2 → (znh k 0 l).length ≤ 2 + zlm l) ∧ (k = 3 → (znh k 0 l).length ≤ 2 + zln l) := ⟨fun e => by subst e; rw [znh_len2]; omega, fun e => by subst e; rw [znh_len3]; omega⟩
  match l, whole with
  | [], w => exact w
  | [t], w =>
    show (k = 2 → (if t.1 = 0 then t.2 else znh k 0 [t]).length ≤ _) ∧ (k = 3 → (if t.1 = 0 then t.2 else znh k 0 [t]).length ≤ _)
    by_cases c : t.1 = 0
    · rw [if_pos c]
      exact ⟨fun _ => by show _ ≤ 2 + (t.2.length + 1 + 0); omega, fun _ => by show _ ≤ 2 + (t.2.length + 0); omega⟩
    · rw [if_neg c]; exact w
  | _ :: _ :: _, w => exact w
theorem znS_len {eq k : Int} {n : Nat} (hk : k = 2 ∨ k = 3) {l : List znT} {m : Int} (h : znl (znk (n + 1)) l m) : (znS eq k l).length ≤ 2 + zlm l := by
  have a := znS2_len (eq := eq) (k := k) h
  have lm := zln_m l
  unfold znS znS3
  by_cases c : znS2 eq k l = [] ∨ (zbt eq 7 = true ∧ ∀ x ∈ znS2 eq k l, znu x)
  · rw [if_pos c]; show 2 ≤ _; omega
  · rw [if_neg c]
    have fin : ∀ t : List znT, t.Perm (znS2 eq k l) → (znal k t).length ≤ 2 + zlm l := fun t ht => by
      have b := znal_len hk t
      have p1 := zlm_perm ht
      have p2 := zln_perm ht
      rcases hk with e | e
      · have := b.1 e; have := a.1 e; omega
      · have := b.2 e; have := a.2 e; omega
    by_cases c2 : zbt eq (k - 2) = true
    · rw [if_pos c2]; exact fin _ (znso_p _)
    · rw [if_neg c2]; exact fin _ (List.Perm.refl _)
theorem zna_len {s v : Int} {c : Int → List Int} : ∀ n : Nat, (zlm (zna s v c n) : Int) = zsuN (fun j => ((c j).length : Int) + 1) n
  | 0 => rfl
  | n + 1 => by
    show (zlm (zna s v c n ++ [(_, c n)]) : Int) = zsuN _ n + (((c n).length : Int) + 1)
    rw [zlm_app, ← zna_len (s := s) (v := v) n]
    show ((zlm (zna s v c n) + ((c n).length + 1 + 0) : Nat) : Int) = _
    omega
theorem znsn_len {eq s v : Int} {c : Int → List Int} {f : Int → Int} {n : Nat} (hs : 0 ≤ s ∧ s ≤ 10) (hc : ∀ j, 0 ≤ j → j < zpn s v → znk (n + 1) (c j) (f j)) : ((znsn eq s v c).length : Int) ≤ 2 + zsuN (fun j => ((c j).length : Int) + 1) (zpn s v).toNat := by
  unfold znsn
  by_cases c0 : s < 2
  · rw [if_pos c0]
    have : zpn s v = 0 := by unfold zpn; rw [if_pos c0]
    rw [this]; show (2 : Int) ≤ 2 + 0; decide
  · rw [if_neg c0]
    by_cases c1 : s < 4
    · rw [if_pos c1]
      have := znS_len (eq := eq) (k := s) (by omega) (zna_l (s := s) (v := v) (zpn s v).toNat (fun j j0 j1 => hc j j0 (by omega)))
      have := zna_len (s := s) (v := v) (c := c) (zpn s v).toNat
      omega
    · rw [if_neg c1]
      by_cases c2 : s < 6
      · rw [if_pos c2]
        have pn : zpn s v = 1 := by unfold zpn; rw [if_neg (by omega), if_neg (by omega), if_neg (by omega), if_pos (by omega)]
        have hl := znh_len (k := s) (v := 0) (ps := [(0, c 0)]) (by omega)
        rw [if_neg (by omega)] at hl
        have : zln [((0 : Int), c 0)] = (c 0).length + 0 := rfl
        rw [pn, hl]
        show _ ≤ 2 + (0 + (((c 0).length : Int) + 1)); omega
      · rw [if_neg c2]
        have two : zln [((0 : Int), c 0), (0, c 1)] = (c 0).length + ((c 1).length + 0) := rfl
        by_cases c3 : s < 8
        · rw [if_pos c3]
          have pn : zpn s v = 2 := by unfold zpn; rw [if_neg (by omega), if_neg (by omega), if_neg (by omega), if_neg (by omega), if_pos (by omega)]
          have fin : ∀ t : List znT, t.Perm [((0 : Int), c 0), (0, c 1)] → ((znh s 0 t).length : Int) ≤ 2 + zsuN (fun j => ((c j).length : Int) + 1) (zpn s v).toNat := fun t ht => by
            have := znh_len (k := s) (v := 0) (ps := t) (by omega)
            rw [if_neg (by omega)] at this
            have := zln_perm ht
            rw [pn]
            show _ ≤ 2 + (0 + (((c 0).length : Int) + 1) + (((c 1).length : Int) + 1)); omega
          by_cases b : zbt eq 4 = true
          · rw [if_pos b]; exact fin _ (znso_p _)
          · rw [if_neg b]; exact fin _ (List.Perm.refl _)
        · rw [if_neg c3]
          by_cases c4 : s < 10
          · rw [if_pos c4]
            have pn : zpn s v = 2 := by unfold zpn; rw [if_neg (by omega), if_neg (by omega), if_neg (by omega), if_neg (by omega), if_pos (by omega)]
            have e : 2 + zsuN (fun j => ((c j).length : Int) + 1) (zpn s v).toNat = 2 + (0 + (((c 0).length : Int) + 1) + (((c 1).length : Int) + 1)) := by rw [pn]; rfl
            rw [e]
            have fin : ∀ t : List znT, t.Perm [((0 : Int), c 0), (0, c 1)] → ((znh s 0 t).length : Int) ≤ 2 + (0 + (((c 0).length : Int) + 1) + (((c 1).length : Int) + 1)) := fun t ht => by
              have := znh_len (k := s) (v := 0) (ps := t) (by omega)
              rw [if_neg (by omega)] at this
              have := zln_perm ht
              omega
            unfold znM
            by_cases b7 : zbt eq 7 = true ∧ (c 0).head? = some 0 ∧ (c 1).head? = some 0
            · rw [if_pos b7]; show (2 : Int) ≤ _; omega
            · rw [if_neg b7]
              by_cases b : zbt eq 5 = true
              · rw [if_pos b]
                by_cases ee : c 0 = c 1
                · rw [if_pos ee]; omega
                · rw [if_neg ee]; exact fin _ (znso_p _)
              · rw [if_neg b]; exact fin _ (List.Perm.refl _)
          · rw [if_neg c4]
            have pn : zpn s v = 4 := by unfold zpn; rw [if_neg (by omega), if_neg (by omega), if_neg (by omega), if_neg (by omega), if_neg (by omega)]
            have e : 2 + zsuN (fun j => ((c j).length : Int) + 1) (zpn s v).toNat = 2 + (0 + (((c 0).length : Int) + 1) + (((c 1).length : Int) + 1) + (((c 2).length : Int) + 1) + (((c 3).length : Int) + 1)) := by rw [pn]; rfl
            rw [e]
            have w4 : ∀ (v : Int) (x y : List Int), x.length + y.length = (c 0).length + (c 1).length → ((znh 10 v [(0, x), (0, y), (0, c 2), (0, c 3)]).length : Int) ≤ 2 + (0 + (((c 0).length : Int) + 1) + (((c 1).length : Int) + 1) + (((c 2).length : Int) + 1) + (((c 3).length : Int) + 1)) := fun v x y h => by
              have := znh_len (k := 10) (v := v) (ps := [(0, x), (0, y), (0, c 2), (0, c 3)]) (by omega)
              rw [if_pos rfl] at this
              have : zln [((0 : Int), x), (0, y), (0, c 2), (0, c 3)] = x.length + (y.length + ((c 2).length + ((c 3).length + 0))) := rfl
              omega
            unfold znI
            by_cases b : zbt eq 6 = true
            · rw [if_pos b]
              by_cases ee : c 2 = c 3
              · rw [if_pos ee]; omega
              · rw [if_neg ee]
                by_cases vv : v = 2 ∨ v = 3
                · rw [if_pos vv]; exact w4 _ _ _ (by omega)
                · rw [if_neg vv]; exact w4 _ _ _ rfl
            · rw [if_neg b]; exact w4 _ _ _ rfl
/-! all steps of a question -/
theorem znF_at {eq : Int} {st v : Int → Int} (k : Nat) : znF eq st v (k + 1) k = znsn eq (st k) (v k) (fun j => znF eq st v k (zcd st v k j)) := if_pos rfl
theorem znF_ne {eq : Int} {st v : Int → Int} {k : Nat} {i : Int} (h : i ≠ k) : znF eq st v (k + 1) i = znF eq st v k i := if_neg h
theorem zlv_at {st v : Int → Int} (k : Nat) : zlv st v (k + 1) k = if st k < 2 then 1 else zsuN (fun j => zlv st v k (zcd st v k j)) (zpn (st k) (v k)).toNat := zup_at _ _ _
theorem zlv_ne {st v : Int → Int} {k : Nat} {i : Int} (h : i ≠ k) : zlv st v (k + 1) i = zlv st v k i := zup_ne h
theorem zwf_cd {st v : Int → Int} {len : Int} (h : zwf st v len) {k : Nat} (hk : (k : Int) < len) {j : Int} (hj : 0 ≤ j ∧ j < zpn (st k) (v k)) : 0 ≤ zcd st v k j ∧ zcd st v k j < k := by
  have q := (zsp_in k (fun i hi => (h.1 i (by omega)).2.1)).2
  have := (h.1 k hk).2.1
  unfold zcd zbs at *
  exact q _ (by omega) (by omega)
theorem znF_k {eq : Int} {st v : Int → Int} {len : Int} (h : zwf st v len) : ∀ (k : Nat), (k : Int) ≤ len → ∀ i, 0 ≤ i → i < (k : Int) → znk (k + 1) (znF eq st v k i) (zlv st v k i)
  | 0, _, i, i0, i1 => by omega
  | k + 1, hk, i, i0, i1 => by
    have ih := znF_k (eq := eq) h k (by omega)
    have q := h.1 k (by omega)
    by_cases c : i = k
    · rw [c, znF_at, zlv_at]
      have hv : st k < 2 ∨ st k = 10 → zb6 (v k) := fun e => by
        unfold zb6
        by_cases z : st k = 0
        · have := q.2.2.1 z; omega
        · by_cases z1 : st k = 1
          · have := q.2.2.2.1 z1; omega
          · have := q.2.2.2.2.1 (by omega); omega
      exact znsn_k (n := k) hv (f := fun j => zlv st v k (zcd st v k j)) q.1 (fun j j0 j1 => by have w := zwf_cd h (k := k) (by omega) ⟨j0, j1⟩; exact ih _ w.1 w.2) (fun e => (q.2.2.2.2.2.1 e).1) rfl
    · rw [znF_ne c, zlv_ne c]
      exact znk_le (by omega) (Int.le_refl _) (ih i i0 (by omega))
theorem znF_st {eq : Int} {st v : Int → Int} {k : Nat} {i : Int} (i1 : i < (k : Int)) : ∀ n : Nat, znF eq st v (k + n) i = znF eq st v k i
  | 0 => rfl
  | n + 1 => (znF_ne (k := k + n) (by omega)).trans (znF_st i1 n)
theorem zlv_st {st v : Int → Int} {k : Nat} {i : Int} (i1 : i < (k : Int)) : ∀ n : Nat, zlv st v (k + n) i = zlv st v k i
  | 0 => rfl
  | n + 1 => (zlv_ne (k := k + n) (by omega)).trans (zlv_st i1 n)
theorem zsuN_c {f g : Int → Int} : ∀ n : Nat, (∀ j, 0 ≤ j → j < (n : Int) → f j = g j) → zsuN f n = zsuN g n
  | 0, _ => rfl
  | n + 1, h => by
    show zsuN f n + f n = zsuN g n + g n
    rw [zsuN_c n (fun j j0 j1 => h j j0 (by omega)), h n (by omega) (by omega)]
theorem zsuN_add {f : Int → Int} (a : Nat) : ∀ b : Nat, zsuN f (a + b) = zsuN f a + zsuN (fun j => f (a + j)) b
  | 0 => by show zsuN f a = zsuN f a + 0; omega
  | b + 1 => by
    show zsuN f (a + b) + f ((a + b : Nat) : Int) = zsuN f a + (zsuN (fun j => f (a + j)) b + f (a + b))
    rw [zsuN_add a b, show ((a + b : Nat) : Int) = (a : Int) + b by omega]; omega
theorem zsuN_0 {f : Int → Int} : ∀ n : Nat, (∀ j, 0 ≤ j → j < (n : Int) → 0 ≤ f j) → 0 ≤ zsuN f n
  | 0, _ => by show (0 : Int) ≤ 0; decide
  | n + 1, h => by
    have := zsuN_0 n (fun j j0 j1 => h j j0 (by omega))
    have := h n (by omega) (by omega)
    show 0 ≤ zsuN f n + f n; omega
/-- the leaves of what waits -/
theorem zlv_sum {st v : Int → Int} {len : Int} (h : zwf st v len) : ∀ (k : Nat), (k : Int) ≤ len → zsuN (fun m => zlv st v k ((zsp st v k).2 m)) (zsp st v k).1.toNat = zlc st k
  | 0, _ => rfl
  | k + 1, hk => by
    have ih := zlv_sum h k (by omega)
    have q := h.1 k (by omega)
    have inn := zsp_in (st := st) (v := v) k (fun i hi => (h.1 i (by omega)).2.1)
    have b := q.2.1
    unfold zbs at b
    obtain ⟨B, hB⟩ := Int.eq_ofNat_of_zero_le b.2
    obtain ⟨P, hP⟩ := Int.eq_ofNat_of_zero_le b.1
    have e1 : (zsp st v (k + 1)).1 = (B : Int) + 1 := by show (zsp st v k).1 - zpn (st k) (v k) + 1 = _; omega
    have e2 : (zsp st v (k + 1)).2 = zup (zsp st v k).2 B k := by show zup (zsp st v k).2 ((zsp st v k).1 - zpn (st k) (v k)) k = _; rw [hB]
    rw [e1, e2, show ((B : Int) + 1).toNat = B + 1 by omega]
    show zsuN _ B + zlv st v (k + 1) (zup (zsp st v k).2 B k B) = zlc st k + if st k < 2 then 1 else 0
    rw [zup_at, zlv_at, ← ih, show (zsp st v k).1.toNat = B + P by omega, zsuN_add]
    have s1 : zsuN (fun m => zlv st v (k + 1) (zup (zsp st v k).2 B k m)) B = zsuN (fun m => zlv st v k ((zsp st v k).2 m)) B := zsuN_c B (fun j j0 j1 => by
      rw [zup_ne (by omega), zlv_ne (by have := inn.2 j j0 (by omega); omega)])
    rw [s1]
    by_cases c : st k < 2
    · have : zpn (st k) (v k) = 0 := by unfold zpn; rw [if_pos c]
      have : P = 0 := by omega
      subst this
      rw [if_pos c, if_pos c]
      show _ = zsuN _ B + 0 + 1; omega
    · rw [if_neg c, if_neg c, hP, Int.toNat_natCast]
      have s2 : zsuN (fun j => zlv st v k (zcd st v k j)) P = zsuN (fun j => zlv st v k ((zsp st v k).2 (B + j))) P := zsuN_c P (fun j j0 j1 => by unfold zcd zbs; rw [hB])
      rw [s2]; omega
theorem zlc_le {st : Int → Int} {n : Nat} : ∀ m : Nat, zlc st n ≤ zlc st (n + m)
  | 0 => Int.le_refl _
  | m + 1 => by
    have := zlc_le (st := st) (n := n) m
    show _ ≤ zlc st (n + m) + if st ((n + m : Nat) : Int) < 2 then 1 else 0
    split <;> omega
/-- none has more than 16 -/
theorem zlv_16 {st v : Int → Int} {len : Int} (h : zwf st v len) (hl : zlc st len.toNat ≤ 16) {k : Nat} (hk : (k : Int) < len) : zlv st v (k + 1) k ≤ 16 := by
  have s := zlv_sum h (k + 1) (by omega)
  have q := h.1 k (by omega)
  have b := q.2.1
  unfold zbs at b
  obtain ⟨B, hB⟩ := Int.eq_ofNat_of_zero_le b.2
  have e1 : (zsp st v (k + 1)).1 = (B : Int) + 1 := by show (zsp st v k).1 - zpn (st k) (v k) + 1 = _; omega
  have e2 : (zsp st v (k + 1)).2 = zup (zsp st v k).2 B k := by show zup (zsp st v k).2 ((zsp st v k).1 - zpn (st k) (v k)) k = _; rw [hB]
  rw [e1, show ((B : Int) + 1).toNat = B + 1 by omega] at s
  have s' : zsuN (fun m => zlv st v (k + 1) ((zsp st v (k + 1)).2 m)) B + zlv st v (k + 1) ((zsp st v (k + 1)).2 B) = zlc st (k + 1) := s
  have p := zsuN_0 (f := fun m => zlv st v (k + 1) ((zsp st v (k + 1)).2 m)) B (fun j j0 j1 => by
    have inn := (zsp_in (st := st) (v := v) (k + 1) (fun i hi => (h.1 i (by omega)).2.1)).2 j j0 (by omega)
    have := znk_1 _ _ _ (znF_k (eq := 0) h (k + 1) (by omega) _ inn.1 inn.2)
    show 0 ≤ zlv st v (k + 1) ((zsp st v (k + 1)).2 j); omega)
  have t := zlc_le (st := st) (n := k + 1) (len.toNat - (k + 1))
  rw [show k + 1 + (len.toNat - (k + 1)) = len.toNat by omega] at t
  rw [e2, zup_at] at s'
  rw [← e2] at s'
  omega
