section PO
variable {G : zG} {d : Nat} {M : zM} {Q : zV → zM → Prop}
def zspL : List (Int × Int × Int) := (List.range 18).map (fun k : Nat => (31 + (k : Int), 0, 1000000))
def zsp' (M N : zM) : Prop := ∀ a i, N a i = M a i ∨ (31 ≤ a ∧ a ≤ 48)
theorem zsp_fr {N : zM} (h : zsp' M N) : zfr zspL M N := fun a i hn => by
  have nh : ¬ zhit zspL a i := fun z => hn (Or.inr (Or.inr z))
  have lo : 0 ≤ i ∧ i < 1000000 := ⟨Int.not_lt.mp (fun z => hn (Or.inl z)), Int.not_le.mp (fun z => hn (Or.inr (Or.inl z)))⟩
  rcases h a i with q | q
  · exact q
  · exact absurd ⟨(31 + ((a - 31).toNat : Int), 0, 1000000), List.mem_map.mpr ⟨(a - 31).toNat, List.mem_range.mpr (by omega), rfl⟩, by show a = 31 + ((a - 31).toNat : Int); omega, lo.1, lo.2⟩ nh

theorem J_spare {M M2 : zM} (hJ : zJ M) (hf : zfr zspL M M2) : zJn M M2 := by
  exact ⟨⟨zsA_c (zfr_sm hf (by decide)) hJ.1, zsI_c (zfr_sm hf (by decide)) hJ.2.1, zJ1_c (zfr_sm hf (by decide)) hJ.2.2.1, zJ2_c (zfr_sm hf (by decide)) hJ.1.2.1.1.2 hJ.2.2.2.1, zJ3_c (zfr_sm hf (by decide)) hJ.2.2.2.2.1, zJ4_c (zfr_sm hf (by decide)) hJ.1.2.1.1.2 hJ.2.2.2.2.2.1, zJ10_c (zfr_sm hf (by decide)) hJ.2.2.2.2.2.2.1, zJ5_c (zfr_sm hf (by decide)) hJ.2.2.2.2.2.2.2.1, zJ6_c (zfr_sm hf (by decide)) hJ.2.2.2.2.2.2.2.2.1, zJ7_c (zfr_sm hf (by decide)) hJ.2.2.2.2.2.2.2.2.2.1, zJ8_c (zfr_sm hf (by decide)) hJ.1.1.2 hJ.2.2.2.2.2.2.2.2.2.2.1, zJ9_c (zfr_sm hf (by decide)) hJ.2.2.2.2.2.2.2.2.2.2.2.1, zJ11_c (zfr_sm hf (by decide)) hJ.1.2.2.1.1.2 hJ.2.2.2.2.2.2.2.2.2.2.2.2.1, zJ12_c (zfr_sm hf (by decide)) hJ.2.2.2.2.2.2.2.2.2.2.2.2.2.1, zJ13_c (zfr_sm hf (by decide)) (zA5 hJ.1) hJ.2.2.2.2.2.2.2.2.2.2.2.2.2.2.1, zJ14_c (zfr_sm hf (by decide)) (zA7 hJ.1) hJ.2.2.2.2.2.2.2.2.2.2.2.2.2.2.2.1, zJ15_c (zfr_sm hf (by decide)) (zA8 hJ.1) hJ.2.2.2.2.2.2.2.2.2.2.2.2.2.2.2.2.1, zJ18_c (zfr_sm hf (by decide)) ⟨zA5 hJ.2.1, zA7 hJ.2.1, zA8 hJ.2.1⟩ hJ.2.2.2.2.2.2.2.2.2.2.2.2.2.2.2.2.2.1, zJ19_c (zfr_sm hf (by decide)) ⟨hJ.2.1.2.1.1.2, hJ.2.1.2.2.1.1.2⟩ hJ.2.2.2.2.2.2.2.2.2.2.2.2.2.2.2.2.2.2.1, zJ16_c (zfr_sm hf (by decide)) hJ.1.1.2 hJ.2.2.2.2.2.2.2.2.2.2.2.2.2.2.2.2.2.2.2.1, zJ17_c (zfr_sm hf (by decide)) hJ.2.1.1.2 hJ.2.2.2.2.2.2.2.2.2.2.2.2.2.2.2.2.2.2.2.2.1, zJF_c (zfr_sm hf (by decide)) hJ.1 hJ.2.2.2.2.2.2.2.2.2.2.2.2.2.2.2.2.2.2.2.1 hJ.2.2.2.2.2.2.2.2.2.2.2.2.2.2.2.2.2.2.2.2.2.1, zJS_c (zfr_sm hf (by decide)) hJ.1.1.2 hJ.2.2.2.2.2.2.2.2.2.2.2.2.2.2.2.2.2.2.2.1 hJ.2.2.2.2.2.2.2.2.2.2.2.2.2.2.2.2.2.2.2.2.2.2.1, (by rw [hf 2 10 (by unfold zhw zhit; decide)]; exact hJ.2.2.2.2.2.2.2.2.2.2.2.2.2.2.2.2.2.2.2.2.2.2.2.1), zJC_c (zfr_sm hf (by decide)) hJ.2.2.2.2.2.2.2.2.2.2.2.2.2.2.2.2.2.2.2.2.2.2.2.2⟩, by rw [hf 2 10 (by unfold zhw zhit; decide)]; omega⟩


theorem zQq_g {P : zM} {q : Int} (hq : 0 ≤ q ∧ q < 12) (pe : ∀ a x, (20 ≤ a ∧ a ≤ 28 ∨ 157 ≤ a) → P a x = M a x) (hQ : zQq M q) : zQq P q ∧ ∀ eq, zqf P eq q = zqf M eq q := by
  obtain ⟨⟨t, t0, t1, t2, t3⟩, -⟩ := id hQ
  refine ⟨zQq_e hq (pe _ _ (by omega)) (pe _ _ (by omega)) (pe _ _ (by omega)) (pe _ _ (by omega)) (fun x x0 x1 => pe _ _ (by omega)) (pe _ _ (by omega)) (fun x y hx _ y0 y1 => pe _ _ (by omega)) (fun t' a b => by rw [pe 235 6 (by omega)]; exact a) hQ, fun eq => zqf_e (by have := hQ.2.1; omega) (pe _ _ (by omega)) (fun x x0 x1 => pe _ _ (by omega))⟩
theorem s_byAll (hG : zP G) (hJ : zJ M) {x y : Int} (hx : 0 ≤ x ∧ x < M 235 0) (hy : 0 ≤ y ∧ y < M 235 0) (h : ∀ N, zsp' M N → Q (0, if zqf M 255 x = zqf M 255 y then 1 else 0) N) : Y G (d + 201) mX3_areAlikeByAll 0 [(2, 19), (0, x), (0, y), (9, 0), (9, 0)] [] M Q := by
  have n12 : 0 ≤ M 235 0 ∧ M 235 0 ≤ 12 := hJ.1.1
  have qx := (hJ.2.2.2.2.2.2.2.2.2.2.2.2.2.2.2.2.2.2.2.1) x hx.1 hx.2
  have qy := (hJ.2.2.2.2.2.2.2.2.2.2.2.2.2.2.2.2.2.2.2.1) y hy.1 hy.2
  obtain ⟨⟨t, t0, t1, t2, t3⟩, -⟩ := id qx
  obtain ⟨⟨s, s0, s1, s2, s3⟩, -⟩ := id qy
  have nd1 : zND 31 := by unfold zND; decide
  have nd2 : zND 40 := by unfold zND; decide
  have gh : ∀ N : zM, (∀ a i, N a i = M a i ∨ (31 ≤ a ∧ a ≤ 48)) → ∃ P : zM, zcq P N ∧ ∀ a i, (20 ≤ a ∧ a ≤ 28 ∨ 157 ≤ a) → P a i = M a i := fun N hN => ⟨fun a => if a ≤ 233 then N a else M a, fun a ha => (if_pos ha).symm, fun a i ha => by
    show (if a ≤ 233 then N a else M a) i = M a i
    by_cases c : a ≤ 233
    · rw [if_pos c]; exact (hN a i).resolve_right (by omega)
    · rw [if_neg c]⟩
  refine bX3_areAlikeByAll_0 hG ⟨by omega, fun c => absurd c (by omega), fun _ => ⟨by omega, fun _ => ⟨by omega, by omega, ?_⟩, fun c => absurd c (by omega)⟩⟩
  have h1 : ∀ a i, zset (zset M 31 8 0) 40 8 0 a i = M a i ∨ (31 ≤ a ∧ a ≤ 48) := fun a i => by
    by_cases c : a = 40
    · exact Or.inr (by omega)
    · by_cases c2 : a = 31
      · exact Or.inr (by omega)
      · exact Or.inl (by rw [zset_off c, zset_off c2])
  have z31 : zset (zset M 31 8 0) 40 8 0 31 8 = 0 := by rw [zset_off (by decide)]; exact zset_same
  have z40 : zset (zset M 31 8 0) 40 8 0 40 8 = 0 := zset_same
  have z20 : zset (zset M 31 8 0) 40 8 0 20 = M 20 := by rw [zset_off (by decide), zset_off (by decide)]
  have z22 : zset (zset M 31 8 0) 40 8 0 22 = M 22 := by rw [zset_off (by decide), zset_off (by decide)]
  generalize zset (zset M 31 8 0) 40 8 0 = M1 at *
  obtain ⟨P1, c1, pe1⟩ := gh M1 h1
  obtain ⟨qx1, fx1⟩ := zQq_g ⟨hx.1, by omega⟩ pe1 qx
  have go := s_qcsay (d := d) (M := M1) (Q := fun r M' => Y G (d + 200 + 1) mX3_areAlikeByAll 59 [(2, 19), (0, x), (0, y), (9, 0), (9, 0)] (zpush r []) M' Q) hG c1 (o := 31) (q := x) (eq := 255) nd1 (by decide) (by decide) ⟨hx.1, by omega⟩ qx1 z31 (fun N1 u hR1 n1 hE1 => bX3_areAlikeByAll_59 hG ⟨by omega, by omega, ?_⟩)
  · rw [z20, z22] at go; exact go
  · rw [fx1] at hE1
    have h2 : ∀ a i, N1 a i = M a i ∨ (31 ≤ a ∧ a ≤ 48) := fun a i => by
      rcases hR1 a i with z | z | z | z
      · rw [z]; exact h1 a i
      · exact Or.inr (by omega)
      · exact Or.inr (by omega)
      · exact Or.inr (by omega)
    have y40 : N1 40 8 = 0 := by
      rcases hR1 40 8 with z | z | z | z
      · rw [z]; exact z40
      · omega
      · omega
      · omega
    obtain ⟨P2, c2, pe2⟩ := gh N1 h2
    obtain ⟨qy2, fy2⟩ := zQq_g ⟨hy.1, by omega⟩ pe2 qy
    refine s_qcsay (d := d) (M := N1) hG c2 (o := 40) (q := y) (eq := 255) nd2 (by decide) (by decide) ⟨hy.1, by omega⟩ qy2 y40 (fun N2 w hR2 n2 hE2 => bX3_areAlikeByAll_83 hG ?_)
    rw [fy2] at hE2
    have e31 : ∀ a i, 31 ≤ a → a ≤ 39 → N2 a i = N1 a i := fun a i a0 a1 => by
      rcases hR2 a i with z | z | z | z
      · exact z
      · omega
      · omega
      · omega
    have h3 : zsp' M N2 := fun a i => by
      rcases hR2 a i with z | z | z | z
      · rw [z]; exact h2 a i
      · exact Or.inr (by omega)
      · exact Or.inr (by omega)
      · exact Or.inr (by omega)
    have hE1' : zqE N2 31 40 u (N2 31 8) (zqf M 255 x) := by
      rw [e31 31 8 (by decide) (by decide)]
      exact zqE_c 40 _ _ _ (fun i i0 i1 => ⟨e31 _ _ (by decide) (by decide), e31 _ _ (by decide) (by decide), e31 _ _ (by decide) (by decide), e31 _ _ (by decide) (by decide)⟩) (fun i i0 i1 => ⟨e31 _ _ (by decide) (by decide), e31 _ _ (by decide) (by decide)⟩) hE1
    have := s_ord (M := N2) hG nd1 nd2 (by rw [e31 31 8 (by decide) (by decide)]; exact n1) n2 40 u (N2 31 8) w (N2 40 8) 0 _ _ (by decide) (by decide) (Int.le_refl _) (Int.le_refl _) hE1' hE2 (d + 120) (fun r M' => Y G (d + 200 + 1) mX3_areAlikeByAll 100 [(2, 19), (0, x), (0, y), (0, u), (0, w)] (zpush r []) M' Q) (fun c hc _ => ?_)
    · exact this
    · have e := (zoc_nc hc).2.1
      have hh := h N2 h3
      refine bX3_areAlikeByAll_100 hG ⟨fun z => ?_, fun z => ?_⟩
      · rw [if_neg (fun q => z (e.mpr q))] at hh; exact hh
      · rw [if_pos (e.mp z)] at hh; exact hh
theorem pr_nearly (hG : zP G) (hJ : zJ M) {x1 x2 : Int} : zPr G d mX11_nearly mX12_nearly [(2, 1), (0, x1), (0, x2)] [(2, 234), (0, x1), (0, x2)] M := by
  have o := (hJ.2.2.2.2.2.2.2.2.2.2.1).1
  have n12 : 0 ≤ M 235 0 ∧ M 235 0 ≤ 12 := hJ.1.1
  have no : ¬ ((0 ≤ x1 ∧ x1 < M 235 0) ∧ 0 ≤ x2 ∧ x2 < M 235 0) → Y G (d + 400) mX12_nearly 0 [(2, 234), (0, x1), (0, x2)] [] M (fun r2 M2 => r2 = (0, -1) ∧ zJn M M2) := fun q =>
    bX12_nearly_0 hG ⟨by omega, fun a => ⟨by omega, fun b => absurd ⟨a, b⟩ q, fun _ => ⟨rfl, zJ_rf hJ⟩⟩, fun _ => ⟨rfl, zJ_rf hJ⟩⟩
  refine bX11_nearly_0 hG ?_
  rw [o]
  refine ⟨by omega, fun a => ⟨by omega, fun b => ?_, fun b => no (fun q => b q.2)⟩, fun a => no (fun q => a q.1)⟩
  refine s_stockJ (d := d + 189) hG hJ (fun N JN hf e13 hW => bX11_nearly_22 hG ?_)
  have e0 : N 235 0 = M 235 0 := (zfr_sm (S := [(235, 0, 156)]) hf (by decide)) 235 0 (zhit_at 0 rfl ⟨by decide, by decide⟩)
  have v10 : N 2 10 = M 2 10 := (zfr_sm (S := [(2, 10, 11)]) hf (by decide)) 2 10 (zhit_at 0 rfl ⟨by decide, by decide⟩)
  have jS := JN.2.2.2.2.2.2.2.2.2.2.2.2.2.2.2.2.2.2.2.2.2.2.1
  have al := zlw_al (jS.2 x1 a.1 (by rw [e13]; exact a.2)).2 (jS.2 x2 b.1 (by rw [e13]; exact b.2)).2 a.1 b.1
  -- the model, from any such memory
  have mo : ∀ (X : zM) (r : Int), zJ X → X 235 0 = M 235 0 → X 2 10 = N 2 10 → (∀ eq q, 0 ≤ q → q < M 235 0 → zqf X eq q = zqf N eq q) → X 235 4 = N 235 4 → (r = if zqf N 255 x1 = zqf N 255 x2 ∧ ¬ zqf N (N 235 4) x1 = zqf N (N 235 4) x2 then 1 else 0) → Y G (d + 400) mX12_nearly 0 [(2, 234), (0, x1), (0, x2)] [] X (fun r2 M2 => r2 = (0, r) ∧ zJn M M2) := fun X r JX x0 xv xf x4 hr => by
    refine bX12_nearly_0 hG ?_
    rw [x0]
    refine ⟨by omega, fun _ => ⟨by omega, fun _ => ?_, fun q => absurd b q⟩, fun q => absurd a q⟩
    refine s_malike (d := d + 394) hG JX (by rw [x0]; exact a) (by rw [x0]; exact b) (by decide) (fun X2 hX2 J2 => ?_)
    rw [xf _ x1 a.1 a.2, xf _ x2 b.1 b.2]
    have xv2 : X2 2 10 = X 2 10 := hX2 2 10 (by unfold zhw zhit; decide)
    have x20 : X2 235 0 = M 235 0 := by rw [hX2 235 0 (by unfold zhw zhit; decide)]; exact x0
    have x24 : X2 235 4 = N 235 4 := by rw [hX2 235 4 (by unfold zhw zhit; decide)]; exact x4
    have xf2 : ∀ q, 0 ≤ q → q < M 235 0 → zqf X2 (N 235 4) q = zqf N (N 235 4) q := fun q q0 q1 => (zqf_c (zfr_sm hX2 (by decide)) ⟨q0, by omega⟩ (JX.2.2.2.2.2.2.2.2.2.2.2.2.2.2.2.2.2.2.2.1 q q0 (by rw [x0]; exact q1))).trans (xf _ q q0 q1)
    by_cases c : zqf N 255 x1 = zqf N 255 x2
    · rw [if_pos c]
      refine bX12_nearly_27 hG ⟨fun z => absurd z (by decide), fun _ => ?_⟩
      rw [x24]
      refine s_malike (d := d + 394) hG J2 (by rw [x20]; exact a) (by rw [x20]; exact b) JN.1.2.2.2.2.1 (fun X3 hX3 J3 => ?_)
      rw [xf2 x1 a.1 a.2, xf2 x2 b.1 b.2]
      have xv3 : X3 2 10 = X2 2 10 := hX3 2 10 (by unfold zhw zhit; decide)
      by_cases c2 : zqf N (N 235 4) x1 = zqf N (N 235 4) x2
      · rw [if_neg (fun z => z.2 c2)] at hr
        rw [if_pos c2]
        exact bX12_nearly_42 hG ⟨fun _ => ⟨by rw [hr], zJn_tr v10 J3 (by omega)⟩, fun z => absurd z (by decide)⟩
      · rw [if_pos ⟨c, c2⟩] at hr
        rw [if_neg c2]
        exact bX12_nearly_42 hG ⟨fun z => absurd rfl z, fun _ => ⟨by rw [hr], zJn_tr v10 J3 (by omega)⟩⟩
    · rw [if_neg c]
      rw [if_neg (fun z => c z.1)] at hr
      exact bX12_nearly_27 hG ⟨fun _ => ⟨by rw [hr], zJn_tr v10 J2 (by omega)⟩, fun z => absurd rfl z⟩
  refine bX3_areAlike_0 hG ⟨by omega, by omega, fun c => bX11_nearly_31 hG ⟨fun z => absurd rfl z, fun _ => ?_⟩, fun c => bX11_nearly_31 hG ⟨fun _ => mo N 0 JN e0 rfl (fun _ _ _ _ => rfl) rfl (by rw [if_neg (fun z => z.2 (al.mp c))]), fun z => absurd z (by decide)⟩⟩
  refine s_byAll (d := d + 198) hG JN (by rw [e0]; exact a) (by rw [e0]; exact b) (fun X hX => ?_)
  have fX := zsp_fr hX
  have JX := (J_spare JN fX).1
  have sx := zfr_sm (S := [(235, 0, 156), (2, 10, 11), (246, 0, 12), (247, 0, 2880)]) fX (by decide)
  have gX := fun r hr => mo X r JX ((sx 235 0 (zhit_at 0 rfl ⟨by decide, by decide⟩)).trans e0) (sx 2 10 (zhit_at 1 rfl ⟨by decide, by decide⟩)) (fun eq q q0 q1 => zqf_e (by have := (JN.2.2.2.2.2.2.2.2.2.2.2.2.2.2.2.2.2.2.2.1 q q0 (by rw [e0]; exact q1)).2.1; omega) (sx _ _ (zhit_at 2 rfl ⟨q0, by omega⟩)) (fun i i0 i1 => sx _ _ (zhit_at 3 rfl ⟨by omega, by omega⟩))) (sx 235 4 (zhit_at 0 rfl ⟨by decide, by decide⟩)) hr
  have nal : ¬ zqf N (N 235 4) x1 = zqf N (N 235 4) x2 := fun z => c (al.mpr z)
  by_cases c2 : zqf N 255 x1 = zqf N 255 x2
  · rw [if_pos c2]
    exact bX11_nearly_43 hG ⟨fun z => absurd z (by decide), fun _ => gX 1 (by rw [if_pos ⟨c2, nal⟩])⟩
  · rw [if_neg c2]
    exact bX11_nearly_43 hG ⟨fun _ => gX 0 (by rw [if_neg (fun z => c2 z.1)]), fun z => absurd rfl z⟩

end PO
