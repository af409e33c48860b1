/-! saying it -/
def zbx (b c : Int) : Int := if b = c then 0 else 1
noncomputable def znt1 (k : Int) (ap : Bool) (t : znT) : List znT := if ap = true ∧ t.2.head? = some k then (zps t.2).map (fun p => (zbx t.1 p.1, p.2)) else [t]
noncomputable def znt (k : Int) (ap : Bool) (l : List znT) : List znT := l.flatMap (znt1 k ap)
abbrev znu (t : znT) : Prop := t.2.head? = some 0
def znlo (u : Int) (l : List znT) : List znT := l.filter (fun t => decide (t.2 ≠ [0, u]))
def znv (e : List Int) : Int := e.getD 1 0
def znk1 (k : Int) (a : Int) (t : znT) : Int := zcl (if k = 3 then a * znv t.2 else if t.1 = 1 then a - znv t.2 else a + znv t.2)
def znwk (k : Int) (l : List znT) : Int := l.foldl (znk1 k) (if k = 2 then 0 else 1)
def znal (k : Int) : List znT → List Int
  | [t] => if t.1 = 0 then t.2 else znh k 0 [t]
  | l => znh k 0 l
noncomputable def znS2 (eq k : Int) (l : List znT) : List znT := if zbt eq k then znlo (k - 2) (znt k (zbt eq (k - 2)) l) else znt k (zbt eq (k - 2)) l
noncomputable def znS3 (eq k : Int) (t : List znT) : List Int := if t = [] ∨ (zbt eq 7 = true ∧ ∀ x ∈ t, znu x) then [0, znwk k t] else znal k (if zbt eq (k - 2) then znso t else t)
noncomputable def znS (eq k : Int) (l : List znT) : List Int := znS3 eq k (znS2 eq k l)
def zna (s v : Int) (c : Int → List Int) : Nat → List znT
  | 0 => []
  | n + 1 => zna s v c n ++ [(if s = 2 ∧ zsg v n then 1 else 0, c n)]
noncomputable def znM (eq k : Int) (x y : List Int) : List Int :=
  if zbt eq 7 = true ∧ x.head? = some 0 ∧ y.head? = some 0 then [0, if k = 8 then max (znv x) (znv y) else min (znv x) (znv y)] else
  if zbt eq 5 then (if x = y then x else znh k 0 (znso [(0, x), (0, y)])) else znh k 0 [(0, x), (0, y)]
def znI (eq v : Int) (x y z w : List Int) : List Int :=
  if zbt eq 6 then (if z = w then z else if v = 2 ∨ v = 3 then znh 10 (v - 2) [(0, y), (0, x), (0, z), (0, w)] else znh 10 v [(0, x), (0, y), (0, z), (0, w)]) else znh 10 v [(0, x), (0, y), (0, z), (0, w)]
noncomputable def znsn (eq s v : Int) (c : Int → List Int) : List Int :=
  if s < 2 then [s, v] else if s < 4 then znS eq s (zna s v c (zpn s v).toNat) else if s < 6 then znh s 0 [(0, c 0)] else
  if s < 8 then znh s 0 (if zbt eq 4 then znso [(0, c 0), (0, c 1)] else [(0, c 0), (0, c 1)]) else if s < 10 then znM eq s (c 0) (c 1) else znI eq v (c 0) (c 1) (c 2) (c 3)
noncomputable def znF (eq : Int) (st v : Int → Int) : Nat → Int → List Int
  | 0 => fun _ => []
  | k + 1 => fun i => if i = k then znsn eq (st k) (v k) (fun j => znF eq st v k (zcd st v k j)) else znF eq st v k i
def zsuN (f : Int → Int) : Nat → Int
  | 0 => 0
  | n + 1 => zsuN f n + f n
def zlv (st v : Int → Int) : Nat → Int → Int
  | 0 => fun _ => 0
  | k + 1 => zup (zlv st v k) k (if st k < 2 then 1 else zsuN (fun j => zlv st v k (zcd st v k j)) (zpn (st k) (v k)).toNat)
/-! it is well said -/
def zsn (k : Int) (l : List znT) : Prop := ∀ p ∈ l, (p.1 = 0 ∨ p.1 = 1) ∧ (k ≠ 2 → p.1 = 0)
theorem zsn_perm {k : Int} {l m : List znT} (hp : l.Perm m) (h : zsn k l) : zsn k m := fun p hp' => h p (hp.mem_iff.mpr hp')
theorem zsn_fil {k : Int} {l : List znT} {f : znT → Bool} (h : zsn k l) : zsn k (l.filter f) := fun p hp => h p (List.mem_filter.mp hp).1
theorem zng_s {k : Int} (hk : k = 2 ∨ k = 3) {l : List znT} (hne : l ≠ []) (h : zsn k l) : zng k l := ⟨⟨by omega, fun _ => hne⟩, fun c => absurd c (by omega), fun c => absurd c (by omega), fun c => absurd c (by omega), fun c => absurd c (by omega), h⟩
theorem znh_hd {k v : Int} {ps : List znT} : (znh k v ps).head? = some k := by
  unfold znh
  by_cases c0 : k < 2
  · rw [if_pos c0]; rfl
  · rw [if_neg c0]
    by_cases c2 : k = 2
    · rw [if_pos c2, c2]; rfl
    · rw [if_neg c2]
      by_cases c3 : k = 3
      · rw [if_pos c3, c3]; rfl
      · rw [if_neg c3]
        by_cases c10 : k = 10
        · rw [if_pos c10, c10]; rfl
        · rw [if_neg c10]; rfl
/-- what one is made of, if its head is k -/
theorem znk_ps {n : Nat} {e : List Int} {m k : Int} (h : znk (n + 1) e m) (hd : e.head? = some k) : zng k (zps e) ∧ (∃ v, e = znh k v (zps e) ∧ zb6 v) ∧ znl (znk n) (zps e) m := by
  obtain ⟨-, k', v, ps, g, q, b, w⟩ := h
  have e1 : zps e = ps := by rw [q]; exact zps_eq g w
  have : k' = k := by
    rw [q, znh_hd] at hd
    injection hd
  subst this
  rw [e1]
  exact ⟨g, ⟨v, q, b⟩, w⟩
theorem znt1_l {k : Int} {ap : Bool} {n : Nat} {t : znT} {a : Int} (hk : k = 2 ∨ k = 3) (h : znk (n + 1) t.2 a) (hs : (t.1 = 0 ∨ t.1 = 1) ∧ (k ≠ 2 → t.1 = 0)) : znl (znk (n + 1)) (znt1 k ap t) a ∧ zsn k (znt1 k ap t) := by
  unfold znt1
  by_cases c : ap = true ∧ t.2.head? = some k
  · rw [if_pos c]
    obtain ⟨g, -, w⟩ := znk_ps h c.2
    refine ⟨znl_map (f := fun p => (zbx t.1 p.1, p.2)) (fun p => rfl) _ _ (znl_mono (fun e b h => znk_mono n e b b (by omega) h) _ a a (by omega) w), fun p hp => ?_⟩
    obtain ⟨q, hq, e⟩ := List.mem_map.mp hp
    subst e
    have s := g.2.2.2.2.2 q hq
    unfold zbx
    refine ⟨?_, fun n2 => ?_⟩
    · by_cases x : t.1 = q.1
      · exact Or.inl (if_pos x)
      · exact Or.inr (if_neg x)
    · exact if_pos (by rw [s.2 n2, hs.2 n2])
  · rw [if_neg c]
    exact ⟨⟨a, h, by show (0 : Int) ≤ a - a; omega⟩, fun p hp => by rw [List.mem_singleton.mp hp]; exact hs⟩
theorem znt_l {k : Int} {ap : Bool} {n : Nat} (hk : k = 2 ∨ k = 3) : ∀ (l : List znT) (m : Int), znl (znk (n + 1)) l m → zsn k l → znl (znk (n + 1)) (znt k ap l) m ∧ zsn k (znt k ap l)
  | [], m, h, _ => ⟨h, fun p hp => by cases hp⟩
  | t :: l, m, h, hs => by
    obtain ⟨a, h1, h2⟩ := h
    obtain ⟨x1, x2⟩ := znt1_l (ap := ap) hk h1 (hs t (List.mem_cons_self ..))
    obtain ⟨y1, y2⟩ := znt_l hk l _ h2 (fun p hp => hs p (List.mem_cons_of_mem _ hp))
    have e : znt k ap (t :: l) = znt1 k ap t ++ znt k ap l := List.flatMap_cons
    rw [e]
    refine ⟨by have := znl_app _ _ _ _ x1 y1; rw [show a + (m - a) = m by omega] at this; exact this, fun p hp => ?_⟩
    rcases List.mem_append.mp hp with q | q
    · exact x2 p q
    · exact y2 p q
theorem znS2_l {eq k : Int} {n : Nat} (hk : k = 2 ∨ k = 3) {l : List znT} {m : Int} (h : znl (znk (n + 1)) l m) (hs : zsn k l) : znl (znk (n + 1)) (znS2 eq k l) m ∧ zsn k (znS2 eq k l) := by
  obtain ⟨a, b⟩ := znt_l (ap := zbt eq (k - 2)) hk l m h hs
  unfold znS2
  by_cases c : zbt eq k = true
  · rw [if_pos c]; exact ⟨znl_fil _ _ a, zsn_fil b⟩
  · rw [if_neg c]; exact ⟨a, b⟩
theorem znk_num {n : Nat} {v m : Int} (h : 1 ≤ m) (hb : zb6 v) : znk (n + 1) [0, v] m := ⟨h, 0, v, [], ⟨⟨by omega, fun c => absurd c (by omega)⟩, fun _ => rfl, fun c => absurd c (by omega), fun c => absurd c (by omega), fun c => absurd c (by omega), fun p hp => by cases hp⟩, rfl, hb, by show (0 : Int) ≤ m; omega⟩
theorem zb6_0 : zb6 0 := by unfold zb6; omega
theorem zcl_b6 (x : Int) : zb6 (zcl x) := by
  unfold zb6 zcl
  by_cases c : 1000000 < x
  · rw [if_pos c]; omega
  · rw [if_neg c]
    by_cases c2 : x < -1000000
    · rw [if_pos c2]; omega
    · rw [if_neg c2]; omega
theorem znwk_b {k : Int} (l : List znT) : zb6 (znwk k l) := by
  have q : ∀ (l : List znT) (a : Int), zb6 a → zb6 (l.foldl (znk1 k) a) := fun l => by
    induction l with
    | nil => exact fun a h => h
    | cons t l ih => exact fun a _ => ih _ (zcl_b6 _)
  refine q l _ ?_
  by_cases c : k = 2
  · rw [if_pos c]; exact zb6_0
  · rw [if_neg c]; unfold zb6; omega
/-- a number is two rows long -/
theorem znk_no {n : Nat} {e : List Int} {m : Int} (h : znk n e m) (hd : e.head? = some 0) : e = [0, znv e] ∧ zb6 (znv e) := by
  cases n with
  | zero => exact h.elim
  | succ n =>
    obtain ⟨g, ⟨v, q, b⟩, -⟩ := znk_ps h hd
    have : e = [0, v] := by rw [q]; unfold znh; rw [if_pos (by omega)]
    rw [this]
    exact ⟨rfl, b⟩
theorem znal_k {k : Int} (hk : k = 2 ∨ k = 3) {n : Nat} {l : List znT} (hne : l ≠ []) {m : Int} (hm : 1 ≤ m) (h : znl (znk n) l m) (hs : zsn k l) : znk (n + 1) (znal k l) m := by
  have whole : znk (n + 1) (znh k 0 l) m := ⟨hm, k, 0, l, zng_s hk hne hs, rfl, zb6_0, h⟩
  match l, h, hs, whole with
  | [], _, _, w => exact w
  | [t], h, _, w =>
    show znk (n + 1) (if t.1 = 0 then t.2 else znh k 0 [t]) m
    by_cases c : t.1 = 0
    · rw [if_pos c]
      obtain ⟨a, h1, h2⟩ := h
      have : (0 : Int) ≤ m - a := h2
      exact znk_le (by omega) (by omega) h1
    · rw [if_neg c]; exact w
  | _ :: _ :: _, _, _, w => exact w
theorem znS_k {eq k : Int} {n : Nat} (hk : k = 2 ∨ k = 3) {l : List znT} {m : Int} (hm : 1 ≤ m) (h : znl (znk (n + 1)) l m) (hs : zsn k l) : znk (n + 2) (znS eq k l) m := by
  obtain ⟨a, b⟩ := znS2_l (eq := eq) hk h hs
  unfold znS znS3
  by_cases c : znS2 eq k l = [] ∨ (zbt eq 7 = true ∧ ∀ x ∈ znS2 eq k l, znu x)
  · rw [if_pos c]; exact znk_num hm (znwk_b _)
  · rw [if_neg c]
    by_cases c2 : zbt eq (k - 2) = true
    · rw [if_pos c2]; exact znal_k hk (fun z => c (Or.inl (List.Perm.eq_nil (l := znS2 eq k l) (by have := (znso_p (znS2 eq k l)).symm; rw [z] at this; exact this)))) hm (znl_perm (znso_p _).symm _ a) (zsn_perm (znso_p _).symm b)
    · rw [if_neg c2]; exact znal_k hk (fun z => c (Or.inl z)) hm a b
theorem zna_l {s v : Int} {P : List Int → Int → Prop} {c : Int → List Int} {f : Int → Int} : ∀ n : Nat, (∀ j, 0 ≤ j → j < (n : Int) → P (c j) (f j)) → znl P (zna s v c n) (zsuN f n)
  | 0, _ => by show (0 : Int) ≤ 0; decide
  | n + 1, h => by
    refine znl_app _ _ _ _ (zna_l n (fun j j0 j1 => h j j0 (by omega))) ⟨f n, h n (by omega) (by omega), ?_⟩
    show (0 : Int) ≤ f n - f n; omega
theorem zna_s {s v : Int} {c : Int → List Int} : ∀ n : Nat, zsn s (zna s v c n)
  | 0 => fun p hp => by cases hp
  | n + 1 => fun p hp => by
    rcases List.mem_append.mp hp with q | q
    · exact zna_s n p q
    · rw [List.mem_singleton.mp q]
      show ((if s = 2 ∧ zsg v n then (1 : Int) else 0) = 0 ∨ (if s = 2 ∧ zsg v n then (1 : Int) else 0) = 1) ∧ (s ≠ 2 → (if s = 2 ∧ zsg v n then (1 : Int) else 0) = 0)
      by_cases w : s = 2 ∧ zsg v n
      · rw [if_pos w]; exact ⟨Or.inr rfl, fun z => absurd w.1 z⟩
      · rw [if_neg w]; exact ⟨Or.inl rfl, fun _ => rfl⟩
theorem zng_w {k : Int} (hk : 4 ≤ k ∧ k ≤ 10) {l : List znT} (h1 : k = 4 ∨ k = 5 → l.length = 1) (h2 : 6 ≤ k ∧ k ≤ 9 → l.length = 2) (h4 : k = 10 → l.length = 4) (h : ∀ p ∈ l, p.1 = 0) : zng k l := ⟨⟨by omega, fun c => absurd c (by omega)⟩, fun c => absurd c (by omega), h1, h2, h4, fun p hp => ⟨Or.inl (h p hp), fun _ => h p hp⟩⟩
theorem znl_2 {P : List Int → Int → Prop} {x y : List Int} {a b m : Int} (hx : P x a) (hy : P y b) (hm : a + b ≤ m) : znl P [(0, x), (0, y)] m := ⟨a, hx, b, hy, by show (0 : Int) ≤ m - a - b; omega⟩
/-- each is well said -/
theorem znsn_k {eq s v : Int} (hv : s < 2 ∨ s = 10 → zb6 v) {c : Int → List Int} {f : Int → Int} {n : Nat} {m : Int} (hs : 0 ≤ s ∧ s ≤ 10) (hc : ∀ j, 0 ≤ j → j < zpn s v → znk (n + 1) (c j) (f j)) (hp : s = 2 ∨ s = 3 → 2 ≤ zpn s v) (hm : m = if s < 2 then 1 else zsuN f (zpn s v).toNat) : znk (n + 2) (znsn eq s v c) m := by
  have f1 : ∀ j, 0 ≤ j → j < zpn s v → 1 ≤ f j := fun j j0 j1 => znk_1 _ _ _ (hc j j0 j1)
  unfold znsn
  by_cases c0 : s < 2
  · rw [if_pos c0] at hm ⊢
    have hm' : 1 ≤ m := by omega
    exact ⟨hm', s, v, [], ⟨⟨by omega, fun c => absurd c (by omega)⟩, fun _ => rfl, fun c => absurd c (by omega), fun c => absurd c (by omega), fun c => absurd c (by omega), fun p hp => by cases hp⟩, by unfold znh; rw [if_pos c0], hv (Or.inl c0), by show (0 : Int) ≤ m; omega⟩
  · rw [if_neg c0] at hm ⊢
    by_cases c1 : s < 4
    · rw [if_pos c1]
      have hs2 : s = 2 ∨ s = 3 := by omega
      have p2 := hp hs2
      have m1 : ∀ N : Nat, (N : Int) ≤ zpn s v → (N : Int) ≤ zsuN f N := fun N => by
        induction N with
        | zero => intro _; show (0 : Int) ≤ 0; decide
        | succ N ih =>
          intro h
          have := ih (by omega)
          have := f1 N (by omega) (by omega)
          show ((N + 1 : Nat) : Int) ≤ zsuN f N + f N
          omega
      have := m1 (zpn s v).toNat (by omega)
      rw [hm]
      exact znS_k hs2 (by omega) (zna_l _ (fun j j0 j1 => hc j j0 (by omega))) (zna_s _)
    · rw [if_neg c1]
      by_cases c2 : s < 6
      · rw [if_pos c2]
        have pn : zpn s v = 1 := by unfold zpn; rw [if_neg (by omega), if_neg (by omega), if_neg (by omega), if_pos (by omega)]
        have em : m = 0 + f 0 := by rw [hm, pn]; rfl
        have q := f1 0 (by omega) (by omega)
        exact ⟨by omega, s, 0, _, zng_w (by omega) (fun _ => rfl) (fun w => absurd w (by omega)) (fun w => absurd w (by omega)) (fun p hp => by rw [List.mem_singleton.mp hp]), rfl, zb6_0, f 0, hc 0 (by omega) (by omega), by show (0 : Int) ≤ m - f 0; omega⟩
      · rw [if_neg c2]
        by_cases c3 : s < 8
        · rw [if_pos c3]
          have pn : zpn s v = 2 := by unfold zpn; rw [if_neg (by omega), if_neg (by omega), if_neg (by omega), if_neg (by omega), if_pos (by omega)]
          have em : m = 0 + f 0 + f 1 := by rw [hm, pn]; rfl
          have q := f1 0 (by omega) (by omega)
          have q1 := f1 1 (by omega) (by omega)
          have l2 : znl (znk (n + 1)) [(0, c 0), (0, c 1)] m := znl_2 (hc 0 (by omega) (by omega)) (hc 1 (by omega) (by omega)) (by omega)
          have s2 : ∀ p ∈ ([(0, c 0), (0, c 1)] : List znT), p.1 = 0 := fun p hp => by
            rcases List.mem_cons.mp hp with w | w
            · rw [w]
            · rw [List.mem_singleton.mp w]
          by_cases b : zbt eq 4 = true
          · rw [if_pos b]
            exact ⟨by omega, s, 0, _, zng_w (by omega) (fun w => absurd w (by omega)) (fun _ => (znso_p _).length_eq) (fun w => absurd w (by omega)) (fun p hp => s2 p ((znso_p _).mem_iff.mp hp)), rfl, zb6_0, znl_perm (znso_p _).symm _ l2⟩
          · rw [if_neg b]
            exact ⟨by omega, s, 0, _, zng_w (by omega) (fun w => absurd w (by omega)) (fun _ => rfl) (fun w => absurd w (by omega)) s2, rfl, zb6_0, l2⟩
        · rw [if_neg c3]
          by_cases c4 : s < 10
          · rw [if_pos c4]
            have pn : zpn s v = 2 := by unfold zpn; rw [if_neg (by omega), if_neg (by omega), if_neg (by omega), if_neg (by omega), if_pos (by omega)]
            have em : m = 0 + f 0 + f 1 := by rw [hm, pn]; rfl
            have q := f1 0 (by omega) (by omega)
            have q1 := f1 1 (by omega) (by omega)
            have l2 : znl (znk (n + 1)) [(0, c 0), (0, c 1)] m := znl_2 (hc 0 (by omega) (by omega)) (hc 1 (by omega) (by omega)) (by omega)
            have s2 : ∀ p ∈ ([(0, c 0), (0, c 1)] : List znT), p.1 = 0 := fun p hp => by
              rcases List.mem_cons.mp hp with w | w
              · rw [w]
              · rw [List.mem_singleton.mp w]
            unfold znM
            by_cases b7 : zbt eq 7 = true ∧ (c 0).head? = some 0 ∧ (c 1).head? = some 0
            · rw [if_pos b7]
              refine znk_num (by omega) ?_
              have n0 := (znk_no (hc 0 (by omega) (by omega)) b7.2.1).2
              have n1 := (znk_no (hc 1 (by omega) (by omega)) b7.2.2).2
              by_cases w : s = 8
              · rw [if_pos w]; unfold zb6 at *; omega
              · rw [if_neg w]; unfold zb6 at *; omega
            · rw [if_neg b7]
              by_cases b : zbt eq 5 = true
              · rw [if_pos b]
                by_cases ee : c 0 = c 1
                · rw [if_pos ee]; exact znk_le (by omega) (by omega) (hc 0 (by omega) (by omega))
                · rw [if_neg ee]
                  exact ⟨by omega, s, 0, _, zng_w (by omega) (fun w => absurd w (by omega)) (fun _ => (znso_p _).length_eq) (fun w => absurd w (by omega)) (fun p hp => s2 p ((znso_p _).mem_iff.mp hp)), rfl, zb6_0, znl_perm (znso_p _).symm _ l2⟩
              · rw [if_neg b]
                exact ⟨by omega, s, 0, _, zng_w (by omega) (fun w => absurd w (by omega)) (fun _ => rfl) (fun w => absurd w (by omega)) s2, rfl, zb6_0, l2⟩
          · rw [if_neg c4]
            have pn : zpn s v = 4 := by unfold zpn; rw [if_neg (by omega), if_neg (by omega), if_neg (by omega), if_neg (by omega), if_neg (by omega)]
            have em : m = 0 + f 0 + f 1 + f 2 + f 3 := by rw [hm, pn]; rfl
            have q := f1 0 (by omega) (by omega)
            have q1 := f1 1 (by omega) (by omega)
            have q2 := f1 2 (by omega) (by omega)
            have q3 := f1 3 (by omega) (by omega)
            have h0 := hc 0 (by omega) (by omega)
            have h1 := hc 1 (by omega) (by omega)
            have h2 := hc 2 (by omega) (by omega)
            have h3 := hc 3 (by omega) (by omega)
            have hv10 := hv (by omega)
            have w4 : ∀ (v : Int) (x y : List Int) (a b : Int), zb6 v → znk (n + 1) x a → znk (n + 1) y b → a + b = f 0 + f 1 → znk (n + 2) (znh 10 v [(0, x), (0, y), (0, c 2), (0, c 3)]) m := fun v x y a b hb hx hy hab =>
              ⟨by omega, 10, v, _, zng_w (by omega) (fun w => absurd w (by omega)) (fun w => absurd w (by omega)) (fun _ => rfl) (fun p hp => by
                simp only [List.mem_cons, List.not_mem_nil, or_false] at hp
                rcases hp with w | w | w | w <;> rw [w]), rfl, hb, a, hx, b, hy, f 2, h2, f 3, h3, by show (0 : Int) ≤ m - a - b - f 2 - f 3; omega⟩
            unfold znI
            by_cases b : zbt eq 6 = true
            · rw [if_pos b]
              by_cases ee : c 2 = c 3
              · rw [if_pos ee]; exact znk_le (by omega) (by omega) h2
              · rw [if_neg ee]
                by_cases vv : v = 2 ∨ v = 3
                · rw [if_pos vv]; exact w4 _ _ _ _ _ (by unfold zb6; omega) h1 h0 (by omega)
                · rw [if_neg vv]; exact w4 _ _ _ _ _ hv10 h0 h1 rfl
            · rw [if_neg b]; exact w4 _ _ _ _ _ hv10 h0 h1 rfl
