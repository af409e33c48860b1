section PSL
variable {G : zG} {d : Nat} {M M0 X0 X : zM} {Q : zV → zM → Prop} {B : Int → Int} {n t f c s : Int} {m k : Nat}
abbrev ps_p : Int → Int := fun _ => -1
def ps_its (s : Int) : List (Int × Int × Int) := if s = 3 then [(2, 0, 5), (32, 0, 0), (2, 0, 5), (33, 0, 0), (2, 1, 99)] else if s = 4 then [(2, 0, 255)] else if s = 5 then [(2, 1, 99), (34, 0, 0), (2, 0, 32767), (32, 0, 0), (2, 0, 99), (35, 0, 0), (2, 0, 8), (33, 0, 0), (2, 1, 16)] else if s = 6 then [(2, 0, 9999)] else if s = 7 then [(2, 0, 5), (2, 0, 11)] else []
/-- what a clause's rest comes to -/
def ps_bd (B : Int → Int) (s : Int) (k : Nat) : Int × Nat × Int × (Int → Int) :=
  if s = 1 then (if 44 ≤ lx_c B (lx_j B k) ∧ lx_c B (lx_j B k) ≤ 47 then ps_fw B [(29, 0, 0), (2, 0, 99)] (k + 1) 1 (zup ps_p 0 (lx_c B (lx_j B k) - 44)) else (1, k, 0, ps_p))
  else if s = 2 then (if (ps_fw B [(2, 0, 99)] k 0 ps_p).1 = 0 then (if lx_c B (lx_j B (k + 1)) = 30 then ps_fw B [(30, 0, 0), (2, 0, 7), (31, 0, 0), (2, 0, 7)] (k + 1) 1 (zup ps_p 0 (lx_v B (lx_j B k))) else (0, k + 1, 3, zup ps_p 0 (lx_v B (lx_j B k)))) else ps_fw B [(2, 0, 99)] k 0 ps_p)
  else ps_fw B (ps_its s) k 0 ps_p
theorem ps_fw_g : ∀ (its : List (Int × Int × Int)) (k : Nat) (g : Int) (p : Int → Int) (k' : Nat) (g' : Int) (p' : Int → Int), ps_fw B its k g p = (0, k', g', p') → g' = g + ps_nn its ∧ k ≤ k'
  | [], k, g, p, k', g', p', h => by
    have e : ((0 : Int), k, g, p) = (0, k', g', p') := h
    have e2 := congrArg (fun z => z.2.1) e
    have e3 := congrArg (fun z => z.2.2.1) e
    have e2' : k = k' := e2
    have e3' : g = g' := e3
    exact ⟨by rw [← e3']; show g = g + 0; omega, by omega⟩
  | (w, lo, hi) :: r, k, g, p, k', g', p', h => by
    rw [ps_fw_c] at h
    show g' = g + ((if w = 2 then 1 else 0) + ps_nn r) ∧ k ≤ k'
    by_cases c1 : lx_c B (lx_j B k) = w
    · rw [if_pos c1] at h
      by_cases c2 : w = 2
      · rw [if_pos c2] at h ⊢
        by_cases c3 : lo ≤ lx_v B (lx_j B k) ∧ lx_v B (lx_j B k) ≤ hi
        · rw [if_pos c3] at h
          have q := ps_fw_g r _ _ _ _ _ _ h
          omega
        · rw [if_neg c3] at h
          exact absurd (congrArg Prod.fst h) (show (2 : Int) ≠ 0 by decide)
      · rw [if_neg c2] at h ⊢
        have q := ps_fw_g r _ _ _ _ _ _ h
        omega
    · rw [if_neg c1] at h
      exact absurd (congrArg Prod.fst h) (show (1 : Int) ≠ 0 by decide)
theorem ps_fw_1 {lo hi g : Int} {p : Int → Int} {k' : Nat} {g' : Int} {p' : Int → Int} (h : ps_fw B [(2, lo, hi)] k g p = (0, k', g', p')) : k' = k + 1 ∧ g' = g + 1 ∧ p' = zup p g (lx_v B (lx_j B k)) := by
  rw [ps_fw_c] at h
  by_cases c1 : lx_c B (lx_j B k) = 2
  · rw [if_pos c1, if_pos rfl] at h
    by_cases c3 : lo ≤ lx_v B (lx_j B k) ∧ lx_v B (lx_j B k) ≤ hi
    · rw [if_pos c3] at h
      have e : ((0 : Int), k + 1, g + 1, zup p g (lx_v B (lx_j B k))) = (0, k', g', p') := h
      exact ⟨(congrArg (fun z => z.2.1) e).symm, (congrArg (fun z => z.2.2.1) e).symm, (congrArg (fun z => z.2.2.2) e).symm⟩
    · rw [if_neg c3] at h
      exact absurd (congrArg Prod.fst h) (show (2 : Int) ≠ 0 by decide)
  · rw [if_neg c1] at h
    exact absurd (congrArg Prod.fst h) (show (1 : Int) ≠ 0 by decide)
def ps_ixb (fm : Int) : Int → List (Int × Int × Int) → Bool
  | x, [] => decide (x = zfl fm)
  | x, (w, lo, hi) :: r => if w = 2 then (decide (zfm fm x = 2) && decide (x + 2 < zfl fm) && decide (zfm fm (x + 1) = lo) && decide (zfm fm (x + 2) = hi) && ps_ixb fm (x + 3) r) else (decide (zfm fm x = w) && decide (w ≠ 0) && decide (x < zfl fm) && ps_ixb fm (x + 1) r)
theorem ps_ixo {fm : Int} : ∀ {its : List (Int × Int × Int)} {x : Int}, ps_ixb fm x its = true → ps_ix fm x its
  | [], x, h => of_decide_eq_true (p := x = zfl fm) h
  | (w, lo, hi) :: r, x, h => by
    have h' : (if w = 2 then (decide (zfm fm x = 2) && decide (x + 2 < zfl fm) && decide (zfm fm (x + 1) = lo) && decide (zfm fm (x + 2) = hi) && ps_ixb fm (x + 3) r) else (decide (zfm fm x = w) && decide (w ≠ 0) && decide (x < zfl fm) && ps_ixb fm (x + 1) r)) = true := h
    show (if w = 2 then (zfm fm x = 2 ∧ x + 2 < zfl fm ∧ zfm fm (x + 1) = lo ∧ zfm fm (x + 2) = hi ∧ ps_ix fm (x + 3) r) else (zfm fm x = w ∧ w ≠ 0 ∧ x < zfl fm ∧ ps_ix fm (x + 1) r))
    by_cases c : w = 2
    · rw [if_pos c] at h' ⊢
      rw [Bool.and_eq_true, Bool.and_eq_true, Bool.and_eq_true, Bool.and_eq_true, decide_eq_true_eq, decide_eq_true_eq, decide_eq_true_eq, decide_eq_true_eq] at h'
      exact ⟨h'.1.1.1.1, h'.1.1.1.2, h'.1.1.2, h'.1.2, ps_ixo h'.2⟩
    · rw [if_neg c] at h' ⊢
      rw [Bool.and_eq_true, Bool.and_eq_true, Bool.and_eq_true, decide_eq_true_eq, decide_eq_true_eq, decide_eq_true_eq] at h'
      exact ⟨h'.1.1.1, h'.1.1.2, h'.1.2, ps_ixo h'.2⟩
/-- the class behind a clause's rest -/
def ps_CE (B : Int → Int) (t : Int) (m : Nat) (M0 M : zM) (k : Nat) (c s g : Int) (p : Int → Int) : Prop := lx_A B M m k ∧ M (186 + 12 * t) 3 = c ∧ M (187 + 12 * t) c = s ∧ (∀ j, 0 ≤ j → j < g → j < 6 → M (188 + 12 * t) (6 * c + j) = p j) ∧ zfr (ps_HI t c) M0 M
theorem ps_CI_E {g : Int} {p : Int → Int} (h : ps_CI B t m M0 M k c s g p) : ps_CE B t m M0 M k c s g p := ⟨h.1, h.2.1.1, h.2.2.1, fun j j0 j1 j6 => by rw [h.2.2.2.1 j j0 j6, if_pos j1], h.2.2.2.2⟩
theorem s_rest (hG : zP G) (hE : ps_E B n m) (ht : 0 ≤ t ∧ t < 4) (hc : 0 ≤ c ∧ c < 24) (hs : 1 ≤ s ∧ s ≤ 8) (hk : k ≤ m) (h : ps_CI B t m M0 M k c (20 + s) 0 ps_p) (hok : ∀ M' k' g' p', ps_bd B s k = (0, k', g', p') → k' ≤ m → ps_CE B t m M0 M' k' c (20 + s) g' p' → Q (0, 1) M') (hfl : ∀ M' e k' g' p', ps_bd B s k = (e, k', g', p') → (1 ≤ e ∧ e ≤ 2) → zfr (ps_HIF t c) M0 M' → M' 12 2 = e → M' 12 3 = lx_j B k' → Q (0, 0) M') : Y G (d + 2) mX4_readRest 0 [(2, 12), (2, 186 + 12 * t), (0, 20 + s)] [] M Q := by
  have zs := zSC_t ht
  have hss : s = 1 ∨ s = 2 ∨ s = 3 ∨ s = 4 ∨ s = 5 ∨ s = 6 ∨ s = 7 ∨ s = 8 := by omega
  have no : ∀ {A : Prop} {x y : Int}, x ≠ y → x = y → A := fun h1 h2 => absurd h2 h1
  rcases hss with e | e | e | e | e | e | e | e <;> subst e <;> refine bX4_readRest_0 hG zs ⟨fun z => ?_, fun z => ?_, fun z => ?_, fun z => ?_, fun z => ?_, fun z => ?_, fun z => ?_, fun z => ?_, fun z => ?_⟩ <;> first | (exact absurd z (by decide)) | skip
  · -- let
    have a7 := h.1.2.2.2.1
    have e1 : ps_bd B 1 k = if 44 ≤ lx_c B (lx_j B k) ∧ lx_c B (lx_j B k) ≤ 47 then ps_fw B [(29, 0, 0), (2, 0, 99)] (k + 1) 1 (zup ps_p 0 (lx_c B (lx_j B k) - 44)) else (1, k, 0, ps_p) := rfl
    rw [e1] at hok hfl
    refine bX4_readThing_0 hG zs ?_
    rw [a7]
    refine ⟨fun z1 => ⟨by omega, ?_⟩, fun z1 => bX4_fail_0 hG (bX4_readThing_22 hG zs ⟨fun _ => bX4_readRest_59 hG zs ⟨fun _ => ?_, fun w => absurd rfl w⟩, fun w => absurd rfl w⟩)⟩
    · rw [if_pos z1] at hok hfl
      have km := ps_lt hE hk (by omega)
      exact s_giv hG ht hc (by decide) h (fun M1 h1 => bX4_readThing_46 hG zs (s_cnx hG ht hc hE.2.1 km h1 (fun M2 h2 => bX4_readThing_53 hG zs (bX4_readRest_59 hG zs ⟨fun w => absurd w (by decide), fun _ => bX4_follow_0 hG zs (s_fol hG hE ht hc (by decide) (by decide) [(29, 0, 0), (2, 0, 99)] 0 (k + 1) 1 _ M2 (by decide) (by omega) (ps_ixo (by decide +kernel)) h2 (by decide) (fun M' k' g' p' e1 e2 e3 => bX4_readRest_70 hG zs ⟨fun w => absurd w (by decide), fun _ => hok M' k' g' p' e1 e2 (ps_CI_E e3)⟩) (fun M' e k' g' p' e1 e2 e3 e4 e5 => bX4_readRest_70 hG zs ⟨fun _ => hfl M' e k' g' p' e1 e2 e3 e4 e5, fun w => absurd rfl w⟩))⟩))))
    · rw [if_neg z1] at hfl
      refine hfl _ 1 k 0 ps_p rfl (by decide) (zfr_set (zfr_set (zfr_sub h.2.2.2.2 (fun y hy => List.mem_cons_of_mem _ hy)) (zhit_at 0 rfl (by decide))) (zhit_at 0 rfl (by decide))) ?_ ?_
      · rw [zr_set (by decide)]; exact zset_same
      · rw [zset_same]; exact h.1.2.2.2.2.1
  · -- born
    have e1 : ps_bd B 2 k = if (ps_fw B [(2, 0, 99)] k 0 ps_p).1 = 0 then (if lx_c B (lx_j B (k + 1)) = 30 then ps_fw B [(30, 0, 0), (2, 0, 7), (31, 0, 0), (2, 0, 7)] (k + 1) 1 (zup ps_p 0 (lx_v B (lx_j B k))) else (0, k + 1, 3, zup ps_p 0 (lx_v B (lx_j B k)))) else ps_fw B [(2, 0, 99)] k 0 ps_p := rfl
    rw [e1] at hok hfl
    refine bX4_follow_0 hG zs (s_fol hG hE ht hc (by decide) (by decide) [(2, 0, 99)] 0 k 0 _ M (by decide) hk (ps_ixo (by decide +kernel)) h (by decide) (fun M1 k1 g1 p1 e1 e2 h1 => ?_) (fun M1 e k1 g1 p1 e1 e2 e3 e4 e5 => ?_))
    · obtain ⟨y1, y2, y3⟩ := ps_fw_1 e1
      subst y1; subst y2; subst y3
      rw [if_pos (by rw [e1])] at hok hfl
      refine bX4_readRest_87 hG zs ⟨fun w => absurd w (by decide), fun _ => ?_⟩
      rw [h1.1.2.2.2.1]
      refine ⟨fun z1 => ?_, fun z1 => ?_⟩
      · rw [if_neg z1] at hok
        refine hok M1 (k + 1) 3 _ rfl e2 ⟨h1.1, h1.2.1.1, h1.2.2.1, fun j j0 j1 j6 => ?_, h1.2.2.2.2⟩
        rw [h1.2.2.2.1 j j0 j6]
        by_cases e0 : j = 0
        · rw [if_pos (by omega)]
        · rw [if_neg (by omega), zup_ne e0]
      · rw [if_pos z1] at hok hfl
        exact bX4_follow_0 hG zs (s_fol hG hE ht hc (by decide) (by decide) [(30, 0, 0), (2, 0, 7), (31, 0, 0), (2, 0, 7)] 0 (k + 1) 1 _ M1 (by decide) e2 (ps_ixo (by decide +kernel)) h1 (by decide) (fun M' k' g' p' e1 e2 e3 => bX4_readRest_110 hG zs ⟨fun w => absurd w (by decide), fun _ => hok M' k' g' p' e1 e2 (ps_CI_E e3)⟩) (fun M' e k' g' p' e1 e2 e3 e4 e5 => bX4_readRest_110 hG zs ⟨fun _ => hfl M' e k' g' p' e1 e2 e3 e4 e5, fun w => absurd rfl w⟩))
    · rw [if_neg (by rw [e1]; show e ≠ 0; omega)] at hfl
      exact bX4_readRest_87 hG zs ⟨fun _ => hfl M1 e k1 g1 p1 e1 e2 e3 e4 e5, fun w => absurd rfl w⟩
  · exact bX4_follow_0 hG zs (s_fol hG hE ht hc (by decide) (by decide) [(2, 0, 5), (32, 0, 0), (2, 0, 5), (33, 0, 0), (2, 1, 99)] 0 k 0 _ M (by decide) hk (ps_ixo (by decide +kernel)) h (by decide) (fun M' k' g' p' e1 e2 e3 => bX4_readRest_127 hG zs ⟨by decide, hok M' k' g' p' e1 e2 (ps_CI_E e3)⟩) (fun M' e k' g' p' e1 e2 e3 e4 e5 => bX4_readRest_127 hG zs ⟨by decide, hfl M' e k' g' p' e1 e2 e3 e4 e5⟩))
  · exact bX4_follow_0 hG zs (s_fol hG hE ht hc (by decide) (by decide) [(2, 0, 255)] 0 k 0 _ M (by decide) hk (ps_ixo (by decide +kernel)) h (by decide) (fun M' k' g' p' e1 e2 e3 => bX4_readRest_136 hG zs ⟨by decide, hok M' k' g' p' e1 e2 (ps_CI_E e3)⟩) (fun M' e k' g' p' e1 e2 e3 e4 e5 => bX4_readRest_136 hG zs ⟨by decide, hfl M' e k' g' p' e1 e2 e3 e4 e5⟩))
  · exact bX4_follow_0 hG zs (s_fol hG hE ht hc (by decide) (by decide) [(2, 1, 99), (34, 0, 0), (2, 0, 32767), (32, 0, 0), (2, 0, 99), (35, 0, 0), (2, 0, 8), (33, 0, 0), (2, 1, 16)] 0 k 0 _ M (by decide) hk (ps_ixo (by decide +kernel)) h (by decide) (fun M' k' g' p' e1 e2 e3 => bX4_readRest_145 hG zs ⟨by decide, hok M' k' g' p' e1 e2 (ps_CI_E e3)⟩) (fun M' e k' g' p' e1 e2 e3 e4 e5 => bX4_readRest_145 hG zs ⟨by decide, hfl M' e k' g' p' e1 e2 e3 e4 e5⟩))
  · exact bX4_follow_0 hG zs (s_fol hG hE ht hc (by decide) (by decide) [(2, 0, 9999)] 0 k 0 _ M (by decide) hk (ps_ixo (by decide +kernel)) h (by decide) (fun M' k' g' p' e1 e2 e3 => bX4_readRest_154 hG zs ⟨by decide, hok M' k' g' p' e1 e2 (ps_CI_E e3)⟩) (fun M' e k' g' p' e1 e2 e3 e4 e5 => bX4_readRest_154 hG zs ⟨by decide, hfl M' e k' g' p' e1 e2 e3 e4 e5⟩))
  · exact bX4_follow_0 hG zs (s_fol hG hE ht hc (by decide) (by decide) [(2, 0, 5), (2, 0, 11)] 0 k 0 _ M (by decide) hk (ps_ixo (by decide +kernel)) h (by decide) (fun M' k' g' p' e1 e2 e3 => bX4_readRest_163 hG zs ⟨by decide, hok M' k' g' p' e1 e2 (ps_CI_E e3)⟩) (fun M' e k' g' p' e1 e2 e3 e4 e5 => bX4_readRest_163 hG zs ⟨by decide, hfl M' e k' g' p' e1 e2 e3 e4 e5⟩))
  · exact bX4_follow_0 hG zs (s_fol hG hE ht hc (by decide) (by decide) [] 0 k 0 _ M (by decide) hk (ps_ixo (by decide +kernel)) h (by decide) (fun M' k' g' p' e1 e2 e3 => bX4_readRest_172 hG zs ⟨by decide, hok M' k' g' p' e1 e2 (ps_CI_E e3)⟩) (fun M' e k' g' p' e1 e2 e3 e4 e5 => bX4_readRest_172 hG zs ⟨by decide, hfl M' e k' g' p' e1 e2 e3 e4 e5⟩))
end PSL
