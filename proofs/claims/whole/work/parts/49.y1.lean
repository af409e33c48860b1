/-! what is said: rows of numbers -/
abbrev znT := Int × List Int
def znc : List Int → List Int → Int
  | [], [] => 0
  | [], _ :: _ => -1
  | _ :: _, [] => 1
  | a :: l, b :: m => if a < b then -1 else if b < a then 1 else znc l m
theorem znc_self : ∀ l : List Int, znc l l = 0
  | [] => rfl
  | a :: l => by
    show (if a < a then -1 else if a < a then 1 else znc l l) = 0
    rw [if_neg (by omega), if_neg (by omega)]; exact znc_self l
theorem znc_r : ∀ l m : List Int, znc l m = -1 ∨ znc l m = 0 ∨ znc l m = 1
  | [], [] => Or.inr (Or.inl rfl)
  | [], _ :: _ => Or.inl rfl
  | _ :: _, [] => Or.inr (Or.inr rfl)
  | a :: l, b :: m => by
    show (if a < b then (-1 : Int) else if b < a then 1 else znc l m) = -1 ∨ _
    have q : znc (a :: l) (b :: m) = if a < b then (-1 : Int) else if b < a then 1 else znc l m := rfl
    rw [q]
    by_cases h1 : a < b
    · rw [if_pos h1]; exact Or.inl rfl
    · rw [if_neg h1]
      by_cases h2 : b < a
      · rw [if_pos h2]; exact Or.inr (Or.inr rfl)
      · rw [if_neg h2]; exact znc_r l m
theorem znc_0 : ∀ l m : List Int, znc l m = 0 → l = m
  | [], [], _ => rfl
  | [], _ :: _, h => absurd h (by show ¬ (-1 : Int) = 0; decide)
  | _ :: _, [], h => absurd h (by show ¬ (1 : Int) = 0; decide)
  | a :: l, b :: m, h => by
    have q : znc (a :: l) (b :: m) = if a < b then (-1 : Int) else if b < a then 1 else znc l m := rfl
    rw [q] at h
    by_cases h1 : a < b
    · rw [if_pos h1] at h; omega
    · rw [if_neg h1] at h
      by_cases h2 : b < a
      · rw [if_pos h2] at h; omega
      · rw [if_neg h2] at h
        rw [show a = b by omega, znc_0 l m h]
theorem znc_op : ∀ l m : List Int, znc m l = - znc l m
  | [], [] => rfl
  | [], _ :: _ => rfl
  | _ :: _, [] => rfl
  | a :: l, b :: m => by
    have q : znc (a :: l) (b :: m) = if a < b then (-1 : Int) else if b < a then 1 else znc l m := rfl
    have q2 : znc (b :: m) (a :: l) = if b < a then (-1 : Int) else if a < b then 1 else znc m l := rfl
    rw [q, q2]
    by_cases h1 : a < b
    · rw [if_pos h1, if_neg (by omega), if_pos h1]; rfl
    · rw [if_neg h1]
      by_cases h2 : b < a
      · rw [if_pos h2, if_neg h1, if_pos h2]
      · rw [if_neg h2, if_neg h2, if_neg h1]; exact znc_op l m
theorem znc_tr : ∀ l m k : List Int, znc l m ≤ 0 → znc m k ≤ 0 → znc l k ≤ 0
  | [], _, [], _, _ => by show (0 : Int) ≤ 0; decide
  | [], _, _ :: _, _, _ => by show (-1 : Int) ≤ 0; decide
  | _ :: _, [], _, h, _ => absurd h (by show ¬ (1 : Int) ≤ 0; decide)
  | _ :: _, _ :: _, [], _, h => absurd h (by show ¬ (1 : Int) ≤ 0; decide)
  | a :: l, b :: m, c :: k, h1, h2 => by
    have q : znc (a :: l) (b :: m) = if a < b then (-1 : Int) else if b < a then 1 else znc l m := rfl
    have q2 : znc (b :: m) (c :: k) = if b < c then (-1 : Int) else if c < b then 1 else znc m k := rfl
    have q3 : znc (a :: l) (c :: k) = if a < c then (-1 : Int) else if c < a then 1 else znc l k := rfl
    rw [q] at h1
    rw [q2] at h2
    rw [q3]
    by_cases a1 : a < b
    · by_cases b1 : b < c
      · rw [if_pos (by omega)]; omega
      · rw [if_neg b1] at h2
        by_cases b2 : c < b
        · rw [if_pos b2] at h2; omega
        · rw [if_pos (by omega)]; omega
    · rw [if_neg a1] at h1
      by_cases a2 : b < a
      · rw [if_pos a2] at h1; omega
      · rw [if_neg a2] at h1
        by_cases b1 : b < c
        · rw [if_pos (by omega)]; omega
        · rw [if_neg b1] at h2
          by_cases b2 : c < b
          · rw [if_pos b2] at h2; omega
          · rw [if_neg b2] at h2
            rw [if_neg (by omega), if_neg (by omega)]
            exact znc_tr l m k h1 h2
def znle (x y : znT) : Prop := x.1 < y.1 ∨ (x.1 = y.1 ∧ znc x.2 y.2 ≤ 0)
theorem znle_rf (x : znT) : znle x x := Or.inr ⟨rfl, by rw [znc_self]; decide⟩
theorem znle_tr {x y z : znT} (h1 : znle x y) (h2 : znle y z) : znle x z := by
  rcases h1 with a | ⟨a, a'⟩
  · rcases h2 with b | ⟨b, -⟩
    · exact Or.inl (by omega)
    · exact Or.inl (by omega)
  · rcases h2 with b | ⟨b, b'⟩
    · exact Or.inl (by omega)
    · exact Or.inr ⟨by omega, znc_tr _ _ _ a' b'⟩
theorem znle_an {x y : znT} (h1 : znle x y) (h2 : znle y x) : x = y := by
  rcases h1 with a | ⟨a, a'⟩
  · rcases h2 with b | ⟨b, -⟩ <;> omega
  · rcases h2 with b | ⟨-, b'⟩
    · omega
    · have := znc_op x.2 y.2
      exact Prod.ext a (znc_0 _ _ (by omega))
theorem znle_to (x y : znT) : znle x y ∨ znle y x := by
  unfold znle
  have := znc_op x.2 y.2
  omega
theorem zn_uniq : ∀ l m : List znT, l.Perm m → l.Pairwise znle → m.Pairwise znle → l = m
  | [], m, h, _, _ => (List.Perm.nil_eq h)
  | a :: l, [], h, _, _ => absurd h.length_eq (by rw [List.length_cons]; exact Nat.succ_ne_zero _)
  | a :: l, b :: m, h, h1, h2 => by
    rw [List.pairwise_cons] at h1 h2
    have e : a = b := by
      have i1 : a ∈ b :: m := h.mem_iff.mp (List.mem_cons_self ..)
      have i2 : b ∈ a :: l := h.mem_iff.mpr (List.mem_cons_self ..)
      rcases List.mem_cons.mp i1 with q | q
      · exact q
      · rcases List.mem_cons.mp i2 with w | w
        · exact w.symm
        · exact znle_an (h1.1 b w) (h2.1 a q)
    subst e
    rw [zn_uniq l m (List.Perm.cons_inv h) h1.2 h2.2]
noncomputable def zni (x : znT) : List znT → List znT
  | [] => [x]
  | y :: l => if x.1 < y.1 ∨ (x.1 = y.1 ∧ znc x.2 y.2 ≤ 0) then x :: y :: l else y :: zni x l
theorem zni_p (x : znT) : ∀ l, (zni x l).Perm (x :: l)
  | [] => List.Perm.refl _
  | y :: l => by
    show (if x.1 < y.1 ∨ (x.1 = y.1 ∧ znc x.2 y.2 ≤ 0) then x :: y :: l else y :: zni x l).Perm _
    by_cases c : x.1 < y.1 ∨ (x.1 = y.1 ∧ znc x.2 y.2 ≤ 0)
    · rw [if_pos c]
    · rw [if_neg c]; exact ((zni_p x l).cons y).trans (List.Perm.swap x y l)
theorem zni_s (x : znT) : ∀ l : List znT, l.Pairwise znle → (zni x l).Pairwise znle
  | [], _ => List.pairwise_singleton _ _
  | y :: l, h => by
    rw [List.pairwise_cons] at h
    show (if x.1 < y.1 ∨ (x.1 = y.1 ∧ znc x.2 y.2 ≤ 0) then x :: y :: l else y :: zni x l).Pairwise _
    by_cases c : x.1 < y.1 ∨ (x.1 = y.1 ∧ znc x.2 y.2 ≤ 0)
    · rw [if_pos c, List.pairwise_cons, List.pairwise_cons]
      refine ⟨fun z hz => ?_, h⟩
      rcases List.mem_cons.mp hz with q | q
      · rw [q]; exact c
      · exact znle_tr c (h.1 z q)
    · rw [if_neg c, List.pairwise_cons]
      refine ⟨fun z hz => ?_, zni_s x l h.2⟩
      rcases List.mem_cons.mp ((zni_p x l).mem_iff.mp hz) with q | q
      · rw [q]
        rcases znle_to x y with w | w
        · exact absurd w c
        · exact w
      · exact h.1 z q
noncomputable def znso : List znT → List znT
  | [] => []
  | x :: l => zni x (znso l)
theorem znso_p : ∀ l, (znso l).Perm l
  | [] => List.Perm.refl _
  | x :: l => (zni_p x _).trans ((znso_p l).cons x)
theorem znso_s : ∀ l, (znso l).Pairwise znle
  | [] => List.Pairwise.nil
  | x :: l => zni_s x _ (znso_s l)
theorem znso_u {l m : List znT} (hp : m.Perm l) (hs : m.Pairwise znle) : m = znso l := zn_uniq _ _ (hp.trans (znso_p l).symm) hs (znso_s l)
/-! parts, and the row of a whole -/
def znh (k v : Int) (ps : List znT) : List Int :=
  if k < 2 then [k, v] else if k = 2 then 2 :: (ps.length : Int) :: ps.flatMap (fun p => (100 + p.1) :: p.2) else if k = 3 then 3 :: (ps.length : Int) :: ps.flatMap (fun p => p.2) else if k = 10 then 10 :: v :: ps.flatMap (fun p => p.2) else k :: ps.flatMap (fun p => p.2)
def zng (k : Int) (ps : List znT) : Prop := ((0 ≤ k ∧ k ≤ 10) ∧ (k = 2 ∨ k = 3 → ps ≠ [])) ∧ (k < 2 → ps = []) ∧ (k = 4 ∨ k = 5 → ps.length = 1) ∧ (6 ≤ k ∧ k ≤ 9 → ps.length = 2) ∧ (k = 10 → ps.length = 4) ∧ (∀ p ∈ ps, (p.1 = 0 ∨ p.1 = 1) ∧ (k ≠ 2 → p.1 = 0))
def znl (P : List Int → Int → Prop) : List znT → Int → Prop
  | [], m => 0 ≤ m
  | p :: l, m => ∃ a, P p.2 a ∧ znl P l (m - a)
def znk : Nat → List Int → Int → Prop
  | 0, _, _ => False
  | n + 1, e, m => 1 ≤ m ∧ ∃ k v ps, zng k ps ∧ e = znh k v ps ∧ zb6 v ∧ znl (znk n) ps m
theorem znl_mem {P : List Int → Int → Prop} : ∀ (l : List znT) (m : Int), znl P l m → ∀ p ∈ l, ∃ a, P p.2 a
  | [], _, _, p, hp => by cases hp
  | q :: l, m, h, p, hp => by
    obtain ⟨a, h1, h2⟩ := h
    rcases List.mem_cons.mp hp with w | w
    · exact ⟨a, by rw [w]; exact h1⟩
    · exact znl_mem l _ h2 p w
theorem znk_1 : ∀ (n : Nat) (e : List Int) (m : Int), znk n e m → 1 ≤ m
  | 0, _, _, h => h.elim
  | _ + 1, _, _, h => h.1
theorem znl_len {n : Nat} : ∀ (l : List znT) (m : Int), znl (znk n) l m → (l.length : Int) ≤ m
  | [], m, h => h
  | p :: l, m, h => by
    obtain ⟨a, h1, h2⟩ := h
    have := znk_1 n _ _ h1
    have := znl_len l _ h2
    rw [List.length_cons]; omega
theorem znl_mono {P P' : List Int → Int → Prop} (hP : ∀ e a, P e a → P' e a) : ∀ (l : List znT) (m m' : Int), m ≤ m' → znl P l m → znl P' l m'
  | [], m, m', hm, h => by have : (0 : Int) ≤ m := h; show (0 : Int) ≤ m'; omega
  | p :: l, m, m', hm, h => by
    obtain ⟨a, h1, h2⟩ := h
    exact ⟨a, hP _ _ h1, znl_mono hP l _ _ (by omega) h2⟩
theorem znk_mono : ∀ (n : Nat) (e : List Int) (m m' : Int), m ≤ m' → znk n e m → znk (n + 1) e m'
  | 0, _, _, _, _, h => h.elim
  | n + 1, e, m, m', hm, h => by
    obtain ⟨h1, k, v, ps, g, q, b, w⟩ := h
    exact ⟨by omega, k, v, ps, g, q, b, znl_mono (fun e a => znk_mono n e a a (by omega)) ps _ _ hm w⟩
theorem znk_le {n n' : Nat} (hn : n ≤ n') {e : List Int} {m m' : Int} (hm : m ≤ m') (h : znk n e m) : znk n' e m' := by
  induction hn with
  | refl =>
    cases n with
    | zero => exact h.elim
    | succ n =>
      obtain ⟨h1, k, v, ps, g, q, b, w⟩ := h
      exact ⟨by omega, k, v, ps, g, q, b, znl_mono (fun e a h => h) ps _ _ hm w⟩
  | step _ ih => exact znk_mono _ _ _ _ (by omega) ih
theorem znl_app {P : List Int → Int → Prop} : ∀ (l l' : List znT) (m m' : Int), znl P l m → znl P l' m' → znl P (l ++ l') (m + m')
  | [], l', m, m', h, h' => by
    have : (0 : Int) ≤ m := h
    exact znl_mono (fun _ _ h => h) l' m' (m + m') (by omega) h'
  | p :: l, l', m, m', h, h' => by
    obtain ⟨a, h1, h2⟩ := h
    refine ⟨a, h1, ?_⟩
    have := znl_app l l' _ _ h2 h'
    rw [show m + m' - a = m - a + m' by omega]
    exact this
theorem znl_map {P : List Int → Int → Prop} {f : znT → znT} (hf : ∀ p, (f p).2 = p.2) : ∀ (l : List znT) (m : Int), znl P l m → znl P (l.map f) m
  | [], m, h => h
  | p :: l, m, h => by
    obtain ⟨a, h1, h2⟩ := h
    exact ⟨a, by rw [hf]; exact h1, znl_map hf l _ h2⟩
theorem znl_fil {n : Nat} {f : znT → Bool} : ∀ (l : List znT) (m : Int), znl (znk n) l m → znl (znk n) (l.filter f) m
  | [], m, h => h
  | p :: l, m, h => by
    obtain ⟨a, h1, h2⟩ := h
    have a1 := znk_1 n _ _ h1
    have r := znl_fil (f := f) l _ h2
    rw [List.filter_cons]
    by_cases c : f p = true
    · rw [if_pos c]; exact ⟨a, h1, r⟩
    · rw [if_neg c]; exact znl_mono (fun _ _ h => h) _ _ _ (by omega) r
theorem znl_perm {P : List Int → Int → Prop} {l l' : List znT} (hp : l.Perm l') : ∀ m : Int, znl P l m → znl P l' m := by
  induction hp with
  | nil => exact fun m h => h
  | cons x _ ih =>
    intro m h
    obtain ⟨a, h1, h2⟩ := h
    exact ⟨a, h1, ih _ h2⟩
  | swap x y l =>
    intro m h
    obtain ⟨a, h1, b, h2, h3⟩ := h
    exact ⟨b, h2, a, h1, by rw [show m - b - a = m - a - b by omega]; exact h3⟩
  | trans _ _ ih1 ih2 => exact fun m h => ih2 m (ih1 m h)
/-! a part ends where it ends -/
def zno (o s c : Int) : Int := o - 1 + (if s = 2 ∨ s = 3 then c else if s = 4 ∨ s = 5 ∨ 100 ≤ s then 1 else if 5 < s ∧ s < 10 then 2 else if s = 10 then 4 else 0)
def znsc : Nat → Int → List Int → List Int
  | 0, _, l => l
  | n + 1, o, l => if o ≤ 0 then l else match l with
    | [] => []
    | s :: t => znsc n (zno o s (t.headD 0)) (if s < 4 ∨ s = 10 then t.tail else t)
theorem znsc_0 : ∀ (f : Nat) (l : List Int), znsc f 0 l = l
  | 0, _ => rfl
  | f + 1, l => if_pos (by decide)
theorem znsc_s {f : Nat} {o s : Int} {t : List Int} (ho : 0 < o) : znsc (f + 1) o (s :: t) = znsc f (zno o s (t.headD 0)) (if s < 4 ∨ s = 10 then t.tail else t) := by
  show (if o ≤ 0 then s :: t else _) = _
  rw [if_neg (by omega)]
def zrd (e : List Int) : Prop := ∀ (o : Int) (r : List Int), 0 ≤ o → ∃ c, ∀ f, znsc (f + c) (o + 1) (e ++ r) = znsc f o r
theorem zrd_l {g : znT → List Int} : ∀ (ps : List znT) (o : Int) (r : List Int), (∀ p ∈ ps, zrd (g p)) → 0 ≤ o → ∃ c, ∀ f, znsc (f + c) (o + ps.length) (ps.flatMap g ++ r) = znsc f o r
  | [], o, r, _, _ => ⟨0, fun f => by show znsc f (o + 0) r = _; rw [Int.add_zero]⟩
  | p :: ps, o, r, h, ho => by
    obtain ⟨c1, h1⟩ := h p (List.mem_cons_self ..) (o + ps.length) (ps.flatMap g ++ r) (by omega)
    obtain ⟨c2, h2⟩ := zrd_l ps o r (fun q hq => h q (List.mem_cons_of_mem _ hq)) ho
    refine ⟨c2 + c1, fun f => ?_⟩
    rw [List.flatMap_cons, List.append_assoc, List.length_cons, show o + ((ps.length + 1 : Nat) : Int) = o + ps.length + 1 by omega, show f + (c2 + c1) = f + c2 + c1 by omega, h1, h2]
theorem zrd_w : ∀ (n : Nat) (e : List Int) (m : Int), znk n e m → zrd e
  | 0, _, _, h => h.elim
  | n + 1, e, m, h => by
    obtain ⟨-, k, v, ps, ⟨⟨g1, -⟩, g2, g3, g4, g5, g6⟩, q, -, w⟩ := h
    have hp : ∀ p ∈ ps, zrd p.2 := fun p hp => by
      obtain ⟨a, h⟩ := znl_mem ps m w p hp
      exact zrd_w n _ _ h
    intro o r ho
    subst q
    unfold znh
    by_cases c0 : k < 2
    · rw [if_pos c0]
      refine ⟨1, fun f => ?_⟩
      show znsc (f + 1) (o + 1) (k :: v :: r) = _
      rw [znsc_s (by omega), if_pos (by omega)]
      unfold zno
      rw [if_neg (by omega), if_neg (by omega), if_neg (by omega), if_neg (by omega)]
      show znsc f _ r = _
      rw [show o + 1 - 1 + 0 = o by omega]
    · rw [if_neg c0]
      by_cases c2 : k = 2
      · rw [if_pos c2]
        obtain ⟨c, h⟩ := zrd_l (g := fun p => (100 + p.1) :: p.2) ps o r (fun p hp' => by
          intro o r ho
          obtain ⟨c, h⟩ := hp p hp' o r ho
          refine ⟨c + 1, fun f => ?_⟩
          have s := (g6 p hp').1
          show znsc (f + c + 1) (o + 1) ((100 + p.1) :: (p.2 ++ r)) = _
          rw [znsc_s (by omega), if_neg (by omega)]
          unfold zno
          rw [if_neg (by omega), if_pos (by omega), show o + 1 - 1 + 1 = o + 1 by omega, h]) ho
        refine ⟨c + 1, fun f => ?_⟩
        show znsc (f + c + 1) (o + 1) (2 :: (ps.length : Int) :: (ps.flatMap (fun p => (100 + p.1) :: p.2) ++ r)) = _
        rw [znsc_s (by omega), if_pos (by omega)]
        unfold zno
        rw [if_pos (by omega)]
        show znsc (f + c) (o + 1 - 1 + (ps.length : Int)) (ps.flatMap (fun p => (100 + p.1) :: p.2) ++ r) = _
        rw [show o + 1 - 1 + (ps.length : Int) = o + ps.length by omega, h]
      · rw [if_neg c2]
        obtain ⟨c, h⟩ := zrd_l (g := fun p => p.2) ps o r hp ho
        by_cases c3 : k = 3
        · rw [if_pos c3]
          refine ⟨c + 1, fun f => ?_⟩
          show znsc (f + c + 1) (o + 1) (3 :: (ps.length : Int) :: (ps.flatMap (fun p => p.2) ++ r)) = _
          rw [znsc_s (by omega), if_pos (by omega)]
          unfold zno
          rw [if_pos (by omega)]
          show znsc (f + c) (o + 1 - 1 + (ps.length : Int)) (ps.flatMap (fun p => p.2) ++ r) = _
          rw [show o + 1 - 1 + (ps.length : Int) = o + ps.length by omega, h]
        · rw [if_neg c3]
          by_cases c10 : k = 10
          · rw [if_pos c10]
            refine ⟨c + 1, fun f => ?_⟩
            have l4 := g5 c10
            show znsc (f + c + 1) (o + 1) (10 :: v :: (ps.flatMap (fun p => p.2) ++ r)) = _
            rw [znsc_s (by omega), if_pos (by omega)]
            unfold zno
            rw [if_neg (by omega), if_neg (by omega), if_neg (by omega), if_pos rfl]
            show znsc (f + c) (o + 1 - 1 + 4) (ps.flatMap (fun p => p.2) ++ r) = _
            rw [show o + 1 - 1 + 4 = o + (ps.length : Int) by omega, h]
          · rw [if_neg c10]
            refine ⟨c + 1, fun f => ?_⟩
            show znsc (f + c + 1) (o + 1) (k :: (ps.flatMap (fun p => p.2) ++ r)) = _
            rw [znsc_s (by omega), if_neg (by omega)]
            unfold zno
            rw [if_neg (by omega)]
            by_cases c5 : k = 4 ∨ k = 5
            · have l := g3 c5
              rw [if_pos (by omega), show o + 1 - 1 + 1 = o + (ps.length : Int) by omega, h]
            · have l := g4 (by omega)
              rw [if_neg (by omega), if_pos (by omega), show o + 1 - 1 + 2 = o + (ps.length : Int) by omega, h]
theorem zrd_in {e e' r r' : List Int} (h : zrd e) (h' : zrd e') (q : e ++ r = e' ++ r') : e = e' ∧ r = r' := by
  obtain ⟨c, w⟩ := h 0 r (by decide)
  obtain ⟨c', w'⟩ := h' 0 r' (by decide)
  have a := w c'
  have b := w' c
  rw [q, show c' + c = c + c' by omega, b, znsc_0, znsc_0] at a
  subst a
  exact ⟨List.append_cancel_right q, rfl⟩
theorem zfm_in {g : znT → List Int} {K : znT → Prop} (hg : ∀ p p' r r', K p → K p' → g p ++ r = g p' ++ r' → p = p' ∧ r = r') : ∀ ps ps' : List znT, ps.length = ps'.length → (∀ p ∈ ps, K p) → (∀ p ∈ ps', K p) → ps.flatMap g = ps'.flatMap g → ps = ps'
  | [], [], _, _, _, _ => rfl
  | [], _ :: _, h, _, _, _ => absurd h (by rw [List.length_cons]; exact (Nat.succ_ne_zero _).symm)
  | _ :: _, [], h, _, _, _ => absurd h (by rw [List.length_cons]; exact Nat.succ_ne_zero _)
  | p :: ps, p' :: ps', h, k, k', q => by
    rw [List.flatMap_cons, List.flatMap_cons] at q
    obtain ⟨a, b⟩ := hg p p' _ _ (k p (List.mem_cons_self ..)) (k' p' (List.mem_cons_self ..)) q
    rw [a, zfm_in hg ps ps' (by rw [List.length_cons, List.length_cons] at h; omega) (fun x hx => k x (List.mem_cons_of_mem _ hx)) (fun x hx => k' x (List.mem_cons_of_mem _ hx)) b]
theorem znh_in {k v k' v' : Int} {ps ps' : List znT} (g : zng k ps) (g' : zng k' ps') (w : ∀ p ∈ ps, zrd p.2) (w' : ∀ p ∈ ps', zrd p.2) (q : znh k v ps = znh k' v' ps') : k = k' ∧ ps = ps' := by
  have hd : ∀ (k v : Int) (ps : List znT), zng k ps → (znh k v ps).headD 0 = k := fun k v ps g => by
    unfold znh
    by_cases c0 : k < 2
    · rw [if_pos c0]; rfl
    · rw [if_neg c0]
      by_cases c2 : k = 2
      · rw [if_pos c2, c2]; rfl
      · rw [if_neg c2]
        by_cases c3 : k = 3
        · rw [if_pos c3, c3]; rfl
        · rw [if_neg c3]
          by_cases c10 : k = 10
          · rw [if_pos c10, c10]; rfl
          · rw [if_neg c10]; rfl
  have e : k = k' := by rw [← hd k v ps g, ← hd k' v' ps' g', q]
  subst e
  refine ⟨rfl, ?_⟩
  have plain : k ≠ 2 → ps.length = ps'.length → ps.flatMap (fun p => p.2) = ps'.flatMap (fun p => p.2) → ps = ps' := fun n2 hl hq =>
    zfm_in (K := fun p => zrd p.2 ∧ p.1 = 0) (fun p p' r r' a a' h => by
      obtain ⟨x, y⟩ := zrd_in a.1 a'.1 h
      exact ⟨Prod.ext (by rw [a.2, a'.2]) x, y⟩) ps ps' hl (fun p hp => ⟨w p hp, (g.2.2.2.2.2 p hp).2 n2⟩) (fun p hp => ⟨w' p hp, (g'.2.2.2.2.2 p hp).2 n2⟩) hq
  unfold znh at q
  by_cases c0 : k < 2
  · rw [g.2.1 c0, g'.2.1 c0]
  · rw [if_neg c0, if_neg c0] at q
    by_cases c2 : k = 2
    · rw [if_pos c2, if_pos c2] at q
      injection q with q1 q2
      injection q2 with q3 q4
      exact zfm_in (K := fun p => zrd p.2) (fun p p' r r' a a' h => by
        have h' : (100 + p.1) :: (p.2 ++ r) = (100 + p'.1) :: (p'.2 ++ r') := h
        injection h' with h1 h2
        obtain ⟨x, y⟩ := zrd_in a a' h2
        exact ⟨Prod.ext (by omega) x, y⟩) ps ps' (by omega) w w' q4
    · rw [if_neg c2, if_neg c2] at q
      by_cases c3 : k = 3
      · rw [if_pos c3, if_pos c3] at q
        injection q with q1 q2
        injection q2 with q3 q4
        exact plain c2 (by omega) q4
      · rw [if_neg c3, if_neg c3] at q
        by_cases c10 : k = 10
        · rw [if_pos c10, if_pos c10] at q
          injection q with q1 q2
          injection q2 with q3 q4
          exact plain c2 (by rw [g.2.2.2.2.1 c10, g'.2.2.2.2.1 c10]) q4
        · rw [if_neg c10, if_neg c10] at q
          injection q with q1 q2
          by_cases c5 : k = 4 ∨ k = 5
          · exact plain c2 (by rw [g.2.2.1 c5, g'.2.2.1 c5]) q2
          · have := g.1.1
            exact plain c2 (by rw [g.2.2.2.1 (by omega), g'.2.2.2.1 (by omega)]) q2
/-- the parts of what is said -/
noncomputable def zps (e : List Int) : List znT := Classical.epsilon (fun ps => ∃ k v n m, zng k ps ∧ e = znh k v ps ∧ znl (znk n) ps m)
theorem zps_eq {k v : Int} {ps : List znT} {n : Nat} {m : Int} (g : zng k ps) (w : znl (znk n) ps m) : zps (znh k v ps) = ps := by
  have ex : ∃ ps' : List znT, ∃ k' v' n' m', zng k' ps' ∧ znh k v ps = znh k' v' ps' ∧ znl (znk n') ps' m' := ⟨ps, k, v, n, m, g, rfl, w⟩
  obtain ⟨k', v', n', m', g', q, w'⟩ := Classical.epsilon_spec ex
  have r1 : ∀ p ∈ ps, zrd p.2 := fun p hp => by
    obtain ⟨a, h⟩ := znl_mem _ _ w p hp
    exact zrd_w _ _ _ h
  have r2 : ∀ p ∈ zps (znh k v ps), zrd p.2 := fun p hp => by
    obtain ⟨a, h⟩ := znl_mem _ _ w' p hp
    exact zrd_w _ _ _ h
  exact (znh_in g' g r2 r1 q.symm).2
