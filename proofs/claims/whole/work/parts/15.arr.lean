theorem z_typ_i {a i : Int} {len : Nat} (hs : zsh a.toNat = (100, len)) : ztyp a i = 0 := by unfold ztyp; rw [hs]; rfl
theorem z_typ_l {a i : Int} {len : Nat} (hs : zsh a.toNat = (101, len)) : ztyp a i = 1 := by unfold ztyp; rw [hs]; rfl
theorem z_typ_z {a i : Int} {len : Nat} (hs : zsh a.toNat = (102, len)) : ztyp a i = 3 := by unfold ztyp; rw [hs]; rfl
theorem z_typ_s {a i : Int} {len : Nat} (hs : zsh a.toNat = (103, len)) : ztyp a i = 2 := by unfold ztyp; rw [hs]; rfl
theorem z_typ_n {a i : Int} {len : Nat} (hs : zsh a.toNat = (104, len)) : ztyp a i = 2 := by unfold ztyp; rw [hs]; rfl
theorem z_fun_i' {M : zM} {a i v : Int} (hi : 0 ≤ i) : upd (fun k => Int32.ofInt (M a k)) i.toNat (Int32.ofInt v) = fun k : Nat => Int32.ofInt (zset M a i v a k) := by
  have := z_fun_i (M := M) (a := a) (v := v) (i := i.toNat)
  rw [Int.toNat_of_nonneg hi] at this
  exact this
theorem z_fun_l' {M : zM} {a i v : Int} (hi : 0 ≤ i) : vp_updL (fun k => Int64.ofInt (M a k)) i.toNat (Int64.ofInt v) = fun k : Nat => Int64.ofInt (zset M a i v a k) := by
  funext j
  unfold vp_updL
  by_cases hj : j = i.toNat
  · subst hj; rw [if_pos rfl, show ((i.toNat : Nat) : Int) = i by omega, zset_same]
  · rw [if_neg hj, zset_ne (fun q => hj (by omega))]
theorem z_fun_q' {B : Nat} {M : zM} {a i v : Int} (hi : 0 ≤ i) : va_up (fun k => zopt B (M a k)) i.toNat (zopt B v) = fun k : Nat => zopt B (zset M a i v a k) := by
  funext j
  unfold va_up
  by_cases hj : j = i.toNat
  · subst hj; rw [if_pos rfl, show ((i.toNat : Nat) : Int) = i by omega, zset_same]
  · rw [if_neg hj, zset_ne (fun q => hj (by omega))]
section ZR
variable {G : zG} {d : Nat} {mt : zMt} {pc : Nat} {ls st : List zV} {n n1 : Nat} {M : zM} {Q : zV → zM → Prop}
/-- a step that reads the memory -/
theorem z_str {pc' : Nat} {st' : List zV} (hok : zokM M → zokL st → zokL st')
    (hw : ∀ (p : Program) (e : Env) (R : Room) (s : State) (m : MethodId) (args : Array Value) (below : List Frame) (meth : Method) (c : Code) (H : Heap) (locs : List Loc) (c1 s1 : Nat) (lsC : Array Slot) (QS : State → Prop), p.tables.exec = Jvm.exec → c.code = mt.2.1 → s.vm.findClass mt.1.cls = some m.cls → zS G s → zokL st → va_P G.2.1 vwCl (zws G n M) H → va_S (zA G) s.heap H locs →
      W p G.1 e R s m args below meth c H locs c1 s1 QS (F0 m pc' lsC (st'.map (zc G))) → W p G.1 e R s m args below meth c H locs c1 s1 QS (F0 m pc lsC (st.map (zc G))))
    (h : Z G d mt pc' ls st' n n1 M Q) : Z G d mt pc ls st n n1 M Q := by
  intro oM oF oL oS p e R s m args below meth c H locs c1 s1 lsC QS X hS hr hl hll hz hn hc hs hE
  exact hw p e R s m args below meth c H locs c1 s1 lsC QS X.1 X.2.1 X.2.2.2.1 X.2.2.2.2.1 oS hr hS (h oM oF oL (hok oM oS) p e R s m args below meth c H locs c1 s1 lsC QS X hS hr hl hll hz hn hc hs hE)
theorem z_iaload {a i : Int} {len : Nat} (hd : decode mt.2.1 pc = .ok (.iaload, 1)) (hs : zsh a.toNat = (100, len)) (ha : 1 ≤ a ∧ a ≤ n) (hi : 0 ≤ i ∧ i < len) (h : Z G d mt (pc + 1) ls ((0, M a i) :: st) n n1 M Q) : Z G d mt pc ls ((0, i) :: (2, a) :: st) n n1 M Q := by
  have hlen : len < 100000 := by have q := zsh_small a.toNat; rw [hs] at q; exact q
  refine z_str (fun oM o => z_okc (by have q := oM a i; rw [z_typ_i hs] at q; exact q) (z_okt (z_okt o))) (fun p e R s m args below meth c H locs c1 s1 lsC QS hx hb hown hZ o hP hS k => ?_) h
  have he := z_ta (G := G) (M := M) ha.1 ha.2
  rw [z_cell_i hs, z_cst ha.1] at he
  rw [List.map_cons, List.map_cons, z_rf ha.1]
  refine va_iald hx hb hZ.2.2.2.1 hP _ 0 he rfl (z_vin hi.1 hi.2 hlen) hd ?_
  rw [z_clp hi.1 (by omega), show ((i.toNat : Nat) : Int) = i by omega]
  exact k
theorem z_laload {a i : Int} {len : Nat} (hd : decode mt.2.1 pc = .ok (.laload, 1)) (hs : zsh a.toNat = (101, len)) (ha : 1 ≤ a ∧ a ≤ n) (hi : 0 ≤ i ∧ i < len) (h : Z G d mt (pc + 1) ls ((1, M a i) :: st) n n1 M Q) : Z G d mt pc ls ((0, i) :: (2, a) :: st) n n1 M Q := by
  have hlen : len < 100000 := by have q := zsh_small a.toNat; rw [hs] at q; exact q
  refine z_str (fun oM o => z_okc (by have q := oM a i; rw [z_typ_l hs] at q; exact q) (z_okt (z_okt o))) (fun p e R s m args below meth c H locs c1 s1 lsC QS hx hb hown hZ o hP hS k => ?_) h
  have he := z_ta (G := G) (M := M) ha.1 ha.2
  rw [z_cell_l hs, z_cst ha.1] at he
  rw [List.map_cons, List.map_cons, z_rf ha.1]
  refine va_lald hx hb hZ.2.2.2.1 hP _ 1 he rfl (z_vin hi.1 hi.2 hlen) hd ?_
  rw [z_clp hi.1 (by omega), show ((i.toNat : Nat) : Int) = i by omega]
  exact k
theorem z_zaload {a i : Int} {len : Nat} (hd : decode mt.2.1 pc = .ok (.baload, 1)) (hs : zsh a.toNat = (102, len)) (ha : 1 ≤ a ∧ a ≤ n) (hi : 0 ≤ i ∧ i < len) (h : Z G d mt (pc + 1) ls ((0, M a i) :: st) n n1 M Q) : Z G d mt pc ls ((0, i) :: (2, a) :: st) n n1 M Q := by
  have hlen : len < 100000 := by have q := zsh_small a.toNat; rw [hs] at q; exact q
  refine z_str (fun oM o => z_okc (by have q := oM a i; rw [z_typ_z hs] at q; obtain ⟨q1, q2⟩ : 0 ≤ M a i ∧ M a i ≤ 1 := q; exact ⟨by omega, by omega⟩) (z_okt (z_okt o))) (fun p e R s m args below meth c H locs c1 s1 lsC QS hx hb hown hZ o hP hS k => ?_) h
  have he := z_ta (G := G) (M := M) ha.1 ha.2
  rw [z_cell_z hs, z_cst ha.1] at he
  rw [List.map_cons, List.map_cons, z_rf ha.1]
  refine va_zald hx hb hZ.2.2.2.1 hP _ 2 he rfl (z_vin hi.1 hi.2 hlen) hd ?_
  rw [z_clp hi.1 (by omega), show ((i.toNat : Nat) : Int) = i by omega]
  exact k
theorem z_aaloads {a i : Int} {len : Nat} (hd : decode mt.2.1 pc = .ok (.aaload, 1)) (hs : zsh a.toNat = (103, len)) (ha : 1 ≤ a ∧ a ≤ n) (hi : 0 ≤ i ∧ i < len) (h : Z G d mt (pc + 1) ls ((2, M a i) :: st) n n1 M Q) : Z G d mt pc ls ((0, i) :: (2, a) :: st) n n1 M Q := by
  have hlen : len < 100000 := by have q := zsh_small a.toNat; rw [hs] at q; exact q
  refine z_str (fun oM o => z_okc (t := 2) trivial (z_okt (z_okt o))) (fun p e R s m args below meth c H locs c1 s1 lsC QS hx hb hown hZ o hP hS k => ?_) h
  have he := z_ta (G := G) (M := M) ha.1 ha.2
  rw [z_cell_s hs, z_cst ha.1] at he
  rw [List.map_cons, List.map_cons, z_rf ha.1]
  refine va_aldq hx hb hZ.2.2.2.1 hP _ 3 he rfl (z_vin hi.1 hi.2 hlen) hd ?_
  rw [z_clp hi.1 (by omega), show ((i.toNat : Nat) : Int) = i by omega, z_rfopt]
  exact k
theorem z_aaloadn {a i : Int} {len : Nat} (hd : decode mt.2.1 pc = .ok (.aaload, 1)) (hs : zsh a.toNat = (104, len)) (ha : 1 ≤ a ∧ a ≤ n) (hi : 0 ≤ i ∧ i < len) (h : Z G d mt (pc + 1) ls ((2, M a i) :: st) n n1 M Q) : Z G d mt pc ls ((0, i) :: (2, a) :: st) n n1 M Q := by
  have hlen : len < 100000 := by have q := zsh_small a.toNat; rw [hs] at q; exact q
  refine z_str (fun oM o => z_okc (t := 2) trivial (z_okt (z_okt o))) (fun p e R s m args below meth c H locs c1 s1 lsC QS hx hb hown hZ o hP hS k => ?_) h
  have he := z_ta (G := G) (M := M) ha.1 ha.2
  rw [z_cell_n hs, z_cst ha.1] at he
  rw [List.map_cons, List.map_cons, z_rf ha.1]
  refine va_aldq hx hb hZ.2.2.2.1 hP _ 4 he rfl (z_vin hi.1 hi.2 hlen) hd ?_
  rw [z_clp hi.1 (by omega), show ((i.toNat : Nat) : Int) = i by omega, z_rfopt]
  exact k
theorem z_iastore {a i v : Int} {len : Nat} (hd : decode mt.2.1 pc = .ok (.iastore, 1)) (hs : zsh a.toNat = (100, len)) (ha : 1 ≤ a ∧ a ≤ n) (hi : 0 ≤ i ∧ i < len) (hx : G.2.2.2.2.2.2 a i = 0) (h : Z G d mt (pc + 1) ls st n n1 (zset M a i v) Q) : Z G d mt pc ls ((0, v) :: (0, i) :: (2, a) :: st) n n1 M Q := by
  have hlen : len < 100000 := by have q := zsh_small a.toNat; rw [hs] at q; exact q
  refine z_stm (fun o => z_okt (z_okt (z_okt o))) (fun o => by rw [z_typ_i hs]; exact z_okh o) hx (fun p e R s m args below meth c H locs c1 s1 lsC QS hx hb hown hnm hZ o hP hS k => ?_) h
  have he := z_ta (G := G) (M := M) ha.1 ha.2
  rw [z_cell_i hs, z_cst ha.1] at he
  rw [List.map_cons, List.map_cons, List.map_cons, z_rf ha.1]
  refine va_iast hx hb hZ.2.2.2.1 hP (zws_D G n M) hS _ 0 he rfl (z_vin hi.1 hi.2 hlen) hd (fun H1 locs1 hP1 _ hS1 => k H1 locs1 ?_ hS1)
  rw [z_clp hi.1 (by omega), z_fun_i' hi.1, z_setR ha.1 ha.2 (by rw [z_cell_i hs, z_cst ha.1])] at hP1
  exact hP1
theorem z_lastore {a i v : Int} {len : Nat} (hd : decode mt.2.1 pc = .ok (.lastore, 1)) (hs : zsh a.toNat = (101, len)) (ha : 1 ≤ a ∧ a ≤ n) (hi : 0 ≤ i ∧ i < len) (hx : G.2.2.2.2.2.2 a i = 0) (h : Z G d mt (pc + 1) ls st n n1 (zset M a i v) Q) : Z G d mt pc ls ((1, v) :: (0, i) :: (2, a) :: st) n n1 M Q := by
  have hlen : len < 100000 := by have q := zsh_small a.toNat; rw [hs] at q; exact q
  refine z_stm (fun o => z_okt (z_okt (z_okt o))) (fun o => by rw [z_typ_l hs]; exact z_okh o) hx (fun p e R s m args below meth c H locs c1 s1 lsC QS hx hb hown hnm hZ o hP hS k => ?_) h
  have he := z_ta (G := G) (M := M) ha.1 ha.2
  rw [z_cell_l hs, z_cst ha.1] at he
  rw [List.map_cons, List.map_cons, List.map_cons, z_rf ha.1]
  refine va_last hx hb hZ.2.2.2.1 hP (zws_D G n M) hS _ 1 he rfl (z_vin hi.1 hi.2 hlen) hd (fun H1 locs1 hP1 _ hS1 => k H1 locs1 ?_ hS1)
  rw [z_clp hi.1 (by omega), z_fun_l' hi.1, z_setR ha.1 ha.2 (by rw [z_cell_l hs, z_cst ha.1])] at hP1
  exact hP1
theorem z_zastore {a i v : Int} {len : Nat} (hd : decode mt.2.1 pc = .ok (.bastore, 1)) (hs : zsh a.toNat = (102, len)) (ha : 1 ≤ a ∧ a ≤ n) (hi : 0 ≤ i ∧ i < len) (hv : 0 ≤ v ∧ v ≤ 1) (hx : G.2.2.2.2.2.2 a i = 0) (h : Z G d mt (pc + 1) ls st n n1 (zset M a i v) Q) : Z G d mt pc ls ((0, v) :: (0, i) :: (2, a) :: st) n n1 M Q := by
  have hlen : len < 100000 := by have q := zsh_small a.toNat; rw [hs] at q; exact q
  refine z_stm (fun o => z_okt (z_okt (z_okt o))) (fun o => by rw [z_typ_z hs]; exact hv) hx (fun p e R s m args below meth c H locs c1 s1 lsC QS hx hb hown hnm hZ o hP hS k => ?_) h
  have he := z_ta (G := G) (M := M) ha.1 ha.2
  rw [z_cell_z hs, z_cst ha.1] at he
  rw [List.map_cons, List.map_cons, List.map_cons, z_rf ha.1]
  refine va_zast hx hb hZ.2.2.2.1 hP (zws_D G n M) hS _ 2 he rfl (z_vin hi.1 hi.2 hlen) hd (fun H1 locs1 hP1 _ hS1 => k H1 locs1 ?_ hS1)
  rw [show vp_nar .boolean (Int32.ofInt v) = Int32.ofInt v by
    have : v = 0 ∨ v = 1 := by omega
    rcases this with rfl | rfl
    · decide +kernel
    · decide +kernel] at hP1
  rw [z_clp hi.1 (by omega), z_fun_i' hi.1, z_setR ha.1 ha.2 (by rw [z_cell_z hs, z_cst ha.1])] at hP1
  exact hP1
theorem z_aastores {a i v : Int} {len lv : Nat} (hd : decode mt.2.1 pc = .ok (.aastore, 1)) (hs : zsh a.toNat = (103, len)) (ha : 1 ≤ a ∧ a ≤ n) (hi : 0 ≤ i ∧ i < len) (hv : 1 ≤ v ∧ v ≤ n) (hsv : zsh v.toNat = (7, lv)) (hx : G.2.2.2.2.2.2 a i = 0) (h : Z G d mt (pc + 1) ls st n n1 (zset M a i v) Q) : Z G d mt pc ls ((2, v) :: (0, i) :: (2, a) :: st) n n1 M Q := by
  have hlen : len < 100000 := by have q := zsh_small a.toNat; rw [hs] at q; exact q
  refine z_stm (fun o => z_okt (z_okt (z_okt o))) (fun o => by rw [z_typ_s hs]; trivial) hx (fun p e R s m args below meth c H locs c1 s1 lsC QS hx hb hown hnm hZ o hP hS k => ?_) h
  have he := z_ta (G := G) (M := M) ha.1 ha.2
  rw [z_cell_s hs, z_cst ha.1] at he
  have hve := z_ta (G := G) (M := M) hv.1 hv.2
  rw [z_cell_obj hsv (by decide), z_cst hv.1] at hve
  rw [List.map_cons, List.map_cons, List.map_cons, z_rf ha.1, z_rf hv.1]
  refine va_astq hx hb hZ.2.2.2.1 hP (zws_D G n M) hS _ 3 _ 7 he rfl hve rfl (z_vin hi.1 hi.2 hlen) hd (fun H1 locs1 hP1 _ hS1 => k H1 locs1 ?_ hS1)
  rw [z_clp hi.1 (by omega), show some (zB G + (v - 1).toNat) = zopt (zB G) v by unfold zopt; rw [if_neg (by omega)], z_fun_q' hi.1, z_setR ha.1 ha.2 (by rw [z_cell_s hs, z_cst ha.1])] at hP1
  exact hP1
theorem z_aastoren {a i v : Int} {len lv : Nat} (hd : decode mt.2.1 pc = .ok (.aastore, 1)) (hs : zsh a.toNat = (104, len)) (ha : 1 ≤ a ∧ a ≤ n) (hi : 0 ≤ i ∧ i < len) (hv : 1 ≤ v ∧ v ≤ n) (hsv : zsh v.toNat = (1, lv)) (hx : G.2.2.2.2.2.2 a i = 0) (h : Z G d mt (pc + 1) ls st n n1 (zset M a i v) Q) : Z G d mt pc ls ((2, v) :: (0, i) :: (2, a) :: st) n n1 M Q := by
  have hlen : len < 100000 := by have q := zsh_small a.toNat; rw [hs] at q; exact q
  refine z_stm (fun o => z_okt (z_okt (z_okt o))) (fun o => by rw [z_typ_n hs]; trivial) hx (fun p e R s m args below meth c H locs c1 s1 lsC QS hx hb hown hnm hZ o hP hS k => ?_) h
  have he := z_ta (G := G) (M := M) ha.1 ha.2
  rw [z_cell_n hs, z_cst ha.1] at he
  have hve := z_ta (G := G) (M := M) hv.1 hv.2
  rw [z_cell_obj hsv (by decide), z_cst hv.1] at hve
  rw [List.map_cons, List.map_cons, List.map_cons, z_rf ha.1, z_rf hv.1]
  refine va_astq hx hb hZ.2.2.2.1 hP (zws_D G n M) hS _ 4 _ 1 he rfl hve rfl (z_vin hi.1 hi.2 hlen) hd (fun H1 locs1 hP1 _ hS1 => k H1 locs1 ?_ hS1)
  rw [z_clp hi.1 (by omega), show some (zB G + (v - 1).toNat) = zopt (zB G) v by unfold zopt; rw [if_neg (by omega)], z_fun_q' hi.1, z_setR ha.1 ha.2 (by rw [z_cell_n hs, z_cst ha.1])] at hP1
  exact hP1
theorem z_alen {a : Int} {kind len : Nat} (hd : decode mt.2.1 pc = .ok (.arraylength, 1)) (hs : zsh a.toNat = (kind, len)) (hk : 100 ≤ kind ∧ kind ≤ 104) (ha : 1 ≤ a ∧ a ≤ n) (h : Z G d mt (pc + 1) ls ((0, (len : Int)) :: st) n n1 M Q) : Z G d mt pc ls ((2, a) :: st) n n1 M Q := by
  have hlen : len < 100000 := by have q := zsh_small a.toNat; rw [hs] at q; exact q
  refine z_str (fun oM o => z_okc (t := 0) ⟨by omega, by omega⟩ (z_okt o)) (fun p e R s m args below meth c H locs c1 s1 lsC QS hx hb hown hZ o hP hS k => ?_) h
  have he := z_ta (G := G) (M := M) ha.1 ha.2
  rw [List.map_cons, z_rf ha.1]
  have hk5 : kind = 100 ∨ kind = 101 ∨ kind = 102 ∨ kind = 103 ∨ kind = 104 := by omega
  rcases hk5 with rfl | rfl | rfl | rfl | rfl
  · rw [z_cell_i hs] at he; exact va_alen hx hb hZ.2.2.2.1 hP _ 0 he rfl (Int32.ofInt_eq_ofNat).symm hd k
  · rw [z_cell_l hs] at he; exact va_alen hx hb hZ.2.2.2.1 hP _ 1 he rfl (Int32.ofInt_eq_ofNat).symm hd k
  · rw [z_cell_z hs] at he; exact va_alen hx hb hZ.2.2.2.1 hP _ 2 he rfl (Int32.ofInt_eq_ofNat).symm hd k
  · rw [z_cell_s hs] at he; exact va_alen hx hb hZ.2.2.2.1 hP _ 3 he rfl (Int32.ofInt_eq_ofNat).symm hd k
  · rw [z_cell_n hs] at he; exact va_alen hx hb hZ.2.2.2.1 hP _ 4 he rfl (Int32.ofInt_eq_ofNat).symm hd k
/-- old arrays of ints -/
theorem z_ialdx {x i : Int} (hd : decode mt.2.1 pc = .ok (.iaload, 1)) (hx : 0 ≤ x ∧ x < 10) (hi : 0 ≤ i ∧ i < (G.2.2.2.2.2.1 x.toNat).1 ∧ i < 100000) (h : Z G d mt (pc + 1) ls ((0, ((G.2.2.2.2.2.1 x.toNat).2 i.toNat).toInt) :: st) n n1 M Q) : Z G d mt pc ls ((0, i) :: (4, x) :: st) n n1 M Q := by
  refine z_str (fun oM o => z_okc (z_rng _) (z_okt (z_okt o))) (fun p e R s m args below meth c H locs c1 s1 lsC QS hx1 hb hown hZ o hP hS k => ?_) h
  obtain ⟨hO, -⟩ := hZ.2.2.2.2
  refine va_ti hx1 hb (hO x.toNat (by omega)) hS (i := Int32.ofInt i) (by rw [vp_in_iff, z_ti ⟨by omega, by omega⟩]; exact ⟨hi.1, hi.2.1⟩) rfl hd ?_
  rw [z_clp hi.1 hi.2.2]
  rw [List.map_cons, show zc G (0, ((G.2.2.2.2.2.1 x.toNat).2 i.toNat).toInt) = .int ((G.2.2.2.2.2.1 x.toNat).2 i.toNat) by show Value.int _ = _; rw [z_as]] at k
  exact k
theorem z_alenx {x : Int} (hd : decode mt.2.1 pc = .ok (.arraylength, 1)) (hx : 0 ≤ x ∧ x < 10) (hl : (G.2.2.2.2.2.1 x.toNat).1 < 100000) (h : Z G d mt (pc + 1) ls ((0, ((G.2.2.2.2.2.1 x.toNat).1 : Int)) :: st) n n1 M Q) : Z G d mt pc ls ((4, x) :: st) n n1 M Q := by
  refine z_str (fun oM o => z_okc (t := 0) ⟨by omega, by omega⟩ (z_okt o)) (fun p e R s m args below meth c H locs c1 s1 lsC QS hx1 hb hown hZ o hP hS k => ?_) h
  obtain ⟨hO, -⟩ := hZ.2.2.2.2
  exact va_tlen hx1 hb (hO x.toNat (by omega)) hS (Int32.ofInt_eq_ofNat).symm hd k
/-- a form -/
theorem z_getform {idx j : Nat} {host : String} (hd : decode mt.2.1 pc = .ok (.getstatic idx, 3)) (hj : j < 9) (hl : Cond.fieldLinkNest mt.1.cls idx "AnswersFirst" (zforms.getD j "") "[I" host ∈ zNs) (h : Z G d mt (pc + 3) ls ((4, (j : Int) + 1) :: st) n n1 M Q) : Z G d mt pc ls st n n1 M Q := by
  refine z_str (fun oM o => z_okc (t := 4) trivial o) (fun p e R s m args below meth c H locs c1 s1 lsC QS hx1 hb hown hZ o hP hS k => ?_) h
  obtain ⟨-, hO, -⟩ := hZ.2.2.2.2
  exact va_getsN hx1 hb (hO j hj) hS hown (zS_nw hZ args hl) (fun _ h9 => h9) hd k
end ZR
