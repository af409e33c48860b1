section PSP
variable {G : zG} {d : Nat} {M M0 X0 X : zM} {Q : zV → zM → Prop} {B : Int → Int} {n t f c : Int} {m k : Nat} {T : Int → Int}
/-- the model reads one clause more -/
def ps_CR (G : zG) (B : Int → Int) (n t : Int) (k : Nat) (c f : Int) (T : Int → Int) (k' : Nat) (c' f' : Int) (T' : Int → Int) : Prop := ∀ (D : Nat) (X0 X : zM) (Q : zV → zM → Prop), ps_Z B n t X0 X k c f T → (∀ X', ps_Z B n t X0 X' k' c' f' T' → Y G (D + 33) mX12_readText 39 [(2, 234), (9, 0)] [] X' Q) → Y G (D + 33) mX12_readText 39 [(2, 234), (9, 0)] [] X Q
/-- the model comes to a fault in a clause -/
def ps_CF (G : zG) (B : Int → Int) (n t : Int) (k : Nat) (c f : Int) (T : Int → Int) (e : Int) (k' : Nat) : Prop := ∀ (D : Nat) (X0 X : zM) (Q : zV → zM → Prop), ps_Z B n t X0 X k c f T → (∀ X', zfr (ps_GG t) X0 X' → X' 234 9 = lx_j B k' → Q (0, e) X') → Y G (D + 33) mX12_readText 39 [(2, 234), (9, 0)] [] X Q
theorem ps_Zn {X3 : zM} {k3 : Nat} {f' : Int} {T' : Int → Int} (hZ : ps_Z B n t X0 X k c f T) (hc : 0 ≤ c ∧ c < 24) (hM : lx_M B n X3) (hT : ps_T B X3 k3) (a4 : X3 234 14 = 889 * t) (a5 : X3 234 15 = f') (a0 : X3 240 (889 * t) = c + 1) (old : ∀ x, 889 * t + 1 ≤ x → x < 889 * t + 12 * c + 1 → X3 240 x = X 240 x) (olds : ∀ x, 889 * t + 289 ≤ x → x < 889 * t + 289 + 2 * f → X3 240 x = X 240 x) (oT : ∀ x, x < 889 * t + 12 * c + 1 → T' x = T x) (oTs : ∀ x, 889 * t + 289 ≤ x → x < 889 * t + 289 + 2 * f → T' x = T x) (hag : ps_ag t c T' (X3 240)) (hst : ∀ i, 0 ≤ i → f ≤ i → i < f' → X3 240 (889 * t + 289 + 2 * i) = T' (889 * t + 289 + 2 * i) ∧ X3 240 (889 * t + 289 + 2 * i + 1) = T' (889 * t + 289 + 2 * i + 1)) (hF : zfr (ps_GG t) X X3) : ps_Z B n t X0 X3 k3 (c + 1) f' T' := by
  obtain ⟨_, _, zag, zst, zF⟩ := hZ
  refine ⟨⟨hM, hT⟩, ⟨a4, a5, a0⟩, fun c' c0 c1 => ?_, fun i i0 i1 => ?_, zfr_trans zF hF⟩
  · by_cases e : c' = c
    · rw [e]; exact hag
    · exact ps_ag_c (zag c' c0 (by omega)) (fun x x0 x1 => oT x (by omega)) (fun x x0 x1 => old x (by omega) (by omega))
  · by_cases e : f ≤ i
    · exact hst i i0 e i1
    · rw [olds _ (by omega) (by omega), olds _ (by omega) (by omega), oTs _ (by omega) (by omega), oTs _ (by omega) (by omega)]
      exact zst i i0 (by omega)
theorem ps_CSn {M5 : zM} {k5 : Nat} {f' : Int} {T' : Int → Int} (h : ps_CS B t m M0 M k c f T) (ht : 0 ≤ t ∧ t < 4) (hc : 0 ≤ c ∧ c < 24) (hA : lx_A B M5 m k5) (h3 : M5 (186 + 12 * t) 3 = c + 1) (h8 : M5 (189 + 12 * t) 8 = f' ∧ f ≤ f' ∧ f' ≤ k5 ∧ f' ≤ 300) (eN : ∀ a x, 1 ≤ a → a ≤ 7 → 0 ≤ x → x < f → M5 (189 + 12 * t + a) x = M (189 + 12 * t + a) x) (e7 : ∀ x, 0 ≤ x → x < c → M5 (187 + 12 * t) x = M (187 + 12 * t) x) (e8 : ∀ x, 0 ≤ x → x < 6 * c → M5 (188 + 12 * t) x = M (188 + 12 * t) x) (oT : ∀ x, x < 889 * t + 12 * c + 1 → T' x = T x) (oTs : ∀ x, 889 * t + 289 ≤ x → x < 889 * t + 289 + 2 * f → T' x = T x) (hX : zXc (ps_gh M5 T') t c) (hF : zfr (ps_HH t) M0 M5) : ps_CS B t m M0 M5 k5 (c + 1) f' T' := by
  obtain ⟨_, _, ⟨f8, f0, _⟩, hx, _⟩ := h
  refine ⟨hA, ⟨h3, by omega, by omega⟩, ⟨h8.1, by omega, h8.2.2.1⟩, fun c' c0 c1 => ?_, hF⟩
  by_cases e : c' = c
  · rw [e]; exact hX
  · have g8 : ps_gh M T (189 + 12 * t) 8 = f := by rw [ps_gh_n (by omega)]; exact f8
    have nb := znpt_b (ps_gh M T 240 (889 * t + 12 * c' + 1))
    refine ps_Xc_c (hx c' c0 (by omega)) ?_ (fun _ x x0 x1 => ?_) (fun j j0 j1 => ?_) (fun i i0 i1 => ?_) ?_ (fun x x0 x1 => ?_) ?_ (fun a x a0 a1 x0 x1 => ?_)
    · rw [ps_gh_t, ps_gh_t]; exact oT _ (by omega)
    · rw [ps_gh_t, ps_gh_t]; exact oT _ (by omega)
    · rw [ps_gh_t, ps_gh_t]; exact oT _ (by omega)
    · rw [g8] at i1
      rw [ps_gh_t, ps_gh_t, ps_gh_t, ps_gh_t]
      exact ⟨oTs _ (by omega) (by omega), oTs _ (by omega) (by omega)⟩
    · rw [ps_gh_n (by omega), ps_gh_n (by omega)]; exact e7 c' c0 (by omega)
    · rw [ps_gh_n (by omega), ps_gh_n (by omega)]; exact e8 x (by omega) (by omega)
    · rw [g8, ps_gh_n (by omega), h8.1]; omega
    · rw [g8] at x1
      rw [ps_gh_n (by omega), ps_gh_n (by omega)]; exact eN a x a0 a1 x0 x1
/-- a clause begins in the class -/
theorem s_bcl (hG : zP G) (hE : ps_E B n m) (ht : 0 ≤ t ∧ t < 4) (hk : k ≤ m) (h : ps_CS B t m M0 M k c f T) (hc : c < 24) (hs : 20 ≤ lx_c B (lx_j B k) ∧ lx_c B (lx_j B k) ≤ 28) (hh : ∀ M2, ps_CI B t m M2 M2 (k + 1) c (lx_c B (lx_j B k)) 0 ps_p → zfr (ps_HB t c) M M2 → k < m → Q (0, 1) M2) : Y G (d + 1) mX4_beginClause 0 [(2, 12), (2, 186 + 12 * t)] [] M Q := by
  have zs := zSC_t ht
  obtain ⟨hA, ⟨h3, c0, _⟩, _, _, _⟩ := h
  have a7 := hA.2.2.2.1
  have km := ps_lt hE hk (by omega)
  refine bX4_beginClause_0 hG zs ?_
  rw [a7, h3]
  refine ⟨fun _ => ⟨fun _ => s_bgc hG ht ⟨c0, hc⟩ h3 (fun M1 q7 q2 q8 qF qo q3 => bX4_beginClause_67 hG zs ?_), fun z => by omega⟩, fun z => absurd hs z⟩
  have hA1 : lx_A B M1 m k := lx_A_c hA (fun i _ _ => qo _ _ (by omega) (by omega) (by omega)) (fun i _ => ⟨qo _ _ (by omega) (by omega) (by omega), qo _ _ (by omega) (by omega) (by omega), qo _ _ (by omega) (by omega) (by omega)⟩)
  refine s_adv hG hE.2.1 km hA1 (fun M2 fX hX => bX4_beginClause_74 hG zs (hh M2 ?_ (zfr_trans qF (zfr_sub fX (fun y hy => by rw [List.mem_singleton] at hy; rw [hy]; exact List.mem_of_getElem? (i := 3) rfl))) km))
  have o : ∀ a i, a ≠ 13 → 0 ≤ i → i < 1000 → M2 a i = M1 a i := fun a i ha i0 i1 => fX a i (by unfold zhw zhit; simp; omega)
  exact ⟨hX, ⟨by rw [o _ _ (by omega) (by decide) (by decide)]; exact q3, by rw [o _ _ (by omega) (by decide) (by decide)]; exact q2⟩, by rw [o _ _ (by omega) (by omega) (by omega)]; exact q7, fun j j0 j1 => by rw [o _ _ (by omega) (by omega) (by omega), q8 j j0 j1, if_neg (by omega)], zfr_rfl⟩
theorem ps_gF {l : List (Int × Int × Int)} (h1 : zfr (ps_GG t) X0 X) {X2 : zM} (h2 : zfr l X X2) (ht : 0 ≤ t ∧ t < 4) (hc : 0 ≤ c ∧ c < 24) (hf : 0 ≤ f) (hl : l = [(234, 8, 13), (234, 16, 17), (240, 889 * t + 12 * c + 1, 889 * t + 12 * c + 13)] ∨ l = ps_GI t c ∨ l = [(234, 8, 13), (240, 889 * t, 889 * t + 289)] ∨ l = ps_G t f) : zfr (ps_GG t) X0 X2 := by
  have cov : ∀ (i : Nat) (x y : Int × Int × Int), (ps_GG t)[i]? = some y → y.1 = x.1 → y.2.1 ≤ x.2.1 → x.2.2 ≤ y.2.2 → ∃ y ∈ ps_GG t, y.1 = x.1 ∧ y.2.1 ≤ x.2.1 ∧ x.2.2 ≤ y.2.2 := fun i x y hi e1 e2 e3 => ⟨y, List.mem_of_getElem? hi, e1, e2, e3⟩
  refine zfr_trans h1 (zfr_cov h2 (fun x hx => ?_))
  rcases hl with e | e | e | e
  · rw [e] at hx
    simp only [List.mem_cons, List.not_mem_nil, or_false] at hx
    rcases hx with g | g | g <;> subst g
    · exact cov 0 _ _ rfl rfl (by show (8 : Int) ≤ 8; omega) (by show (13 : Int) ≤ 28; omega)
    · exact cov 0 _ _ rfl rfl (by show (8 : Int) ≤ 16; omega) (by show (17 : Int) ≤ 28; omega)
    · exact cov 1 _ _ rfl rfl (by show 889 * t ≤ 889 * t + 12 * c + 1; omega) (by show 889 * t + 12 * c + 13 ≤ 889 * t + 889; omega)
  · rw [e] at hx
    unfold ps_GI at hx
    simp only [List.mem_cons, List.not_mem_nil, or_false] at hx
    rcases hx with g | g <;> subst g
    · exact cov 0 _ _ rfl rfl (by show (8 : Int) ≤ 8; omega) (by show (13 : Int) ≤ 28; omega)
    · exact cov 1 _ _ rfl rfl (by show 889 * t ≤ 889 * t + 12 * c + 1; omega) (by show 889 * t + 12 * c + 13 ≤ 889 * t + 889; omega)
  · rw [e] at hx
    simp only [List.mem_cons, List.not_mem_nil, or_false] at hx
    rcases hx with g | g <;> subst g
    · exact cov 0 _ _ rfl rfl (by show (8 : Int) ≤ 8; omega) (by show (13 : Int) ≤ 28; omega)
    · exact cov 1 _ _ rfl rfl (by show 889 * t ≤ 889 * t; omega) (by show 889 * t + 289 ≤ 889 * t + 889; omega)
  · rw [e] at hx
    unfold ps_G at hx
    simp only [List.mem_cons, List.not_mem_nil, or_false] at hx
    rcases hx with g | g | g | g | g | g | g | g | g <;> subst g
    · exact cov 0 _ _ rfl rfl (by show (8 : Int) ≤ 8; omega) (by show (13 : Int) ≤ 28; omega)
    · exact cov 0 _ _ rfl rfl (by show (8 : Int) ≤ 15; omega) (by show (16 : Int) ≤ 28; omega)
    · exact cov 0 _ _ rfl rfl (by show (8 : Int) ≤ 22; omega) (by show (28 : Int) ≤ 28; omega)
    · exact cov 1 _ _ rfl rfl (by show 889 * t ≤ 889 * t + 289 + 2 * f; omega) (by show 889 * t + 889 ≤ 889 * t + 889; omega)
    · exact cov 2 _ _ rfl rfl (by show (0 : Int) ≤ 0; omega) (by show (1000000 : Int) ≤ 1000000; omega)
    · exact cov 3 _ _ rfl rfl (by show (0 : Int) ≤ 0; omega) (by show (1000000 : Int) ≤ 1000000; omega)
    · exact cov 4 _ _ rfl rfl (by show (0 : Int) ≤ 0; omega) (by show (1000000 : Int) ≤ 1000000; omega)
    · exact cov 5 _ _ rfl rfl (by show (0 : Int) ≤ 0; omega) (by show (1000000 : Int) ≤ 1000000; omega)
    · exact cov 6 _ _ rfl rfl (by show (0 : Int) ≤ 0; omega) (by show (1000000 : Int) ≤ 1000000; omega)
theorem ps_bd_g {s : Int} (hs : 1 ≤ s ∧ s ≤ 8) {k' : Nat} {g' : Int} {p' : Int → Int} (h : ps_bd B s k = (0, k', g', p')) : g' = znpt s ∧ k ≤ k' := by
  have hss : s = 1 ∨ s = 2 ∨ s = 3 ∨ s = 4 ∨ s = 5 ∨ s = 6 ∨ s = 7 ∨ s = 8 := by omega
  rcases hss with e | e | e | e | e | e | e | e <;> subst e
  · have e1 : ps_bd B 1 k = if 44 ≤ lx_c B (lx_j B k) ∧ lx_c B (lx_j B k) ≤ 47 then ps_fw B [(29, 0, 0), (2, 0, 99)] (k + 1) 1 (zup ps_p 0 (lx_c B (lx_j B k) - 44)) else (1, k, 0, ps_p) := rfl
    rw [e1] at h
    by_cases z : 44 ≤ lx_c B (lx_j B k) ∧ lx_c B (lx_j B k) ≤ 47
    · rw [if_pos z] at h
      have q := ps_fw_g _ _ _ _ _ _ _ h
      exact ⟨q.1, by omega⟩
    · rw [if_neg z] at h
      exact absurd (congrArg Prod.fst h) (show (1 : Int) ≠ 0 by decide)
  · have e1 : ps_bd B 2 k = if (ps_fw B [(2, 0, 99)] k 0 ps_p).1 = 0 then (if lx_c B (lx_j B (k + 1)) = 30 then ps_fw B [(30, 0, 0), (2, 0, 7), (31, 0, 0), (2, 0, 7)] (k + 1) 1 (zup ps_p 0 (lx_v B (lx_j B k))) else (0, k + 1, 3, zup ps_p 0 (lx_v B (lx_j B k)))) else ps_fw B [(2, 0, 99)] k 0 ps_p := rfl
    rw [e1] at h
    by_cases z : (ps_fw B [(2, 0, 99)] k 0 ps_p).1 = 0
    · rw [if_pos z] at h
      by_cases z2 : lx_c B (lx_j B (k + 1)) = 30
      · rw [if_pos z2] at h
        have q := ps_fw_g _ _ _ _ _ _ _ h
        exact ⟨q.1, by omega⟩
      · rw [if_neg z2] at h
        have e3 : (3 : Int) = g' := congrArg (fun z => z.2.2.1) h
        have e2 : k + 1 = k' := congrArg (fun z => z.2.1) h
        exact ⟨e3.symm, by omega⟩
    · rw [if_neg z] at h
      exact absurd (by rw [h]) z
  · have q := ps_fw_g _ _ _ _ _ _ _ h
    exact ⟨q.1, q.2⟩
  · have q := ps_fw_g _ _ _ _ _ _ _ h
    exact ⟨q.1, q.2⟩
  · have q := ps_fw_g _ _ _ _ _ _ _ h
    exact ⟨q.1, q.2⟩
  · have q := ps_fw_g _ _ _ _ _ _ _ h
    exact ⟨q.1, q.2⟩
  · have q := ps_fw_g _ _ _ _ _ _ _ h
    exact ⟨q.1, q.2⟩
  · have q := ps_fw_g _ _ _ _ _ _ _ h
    exact ⟨q.1, q.2⟩
end PSP
