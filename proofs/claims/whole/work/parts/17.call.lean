section ZR
variable {G : zG} {d : Nat} {mt : zMt} {pc : Nat} {ls st stk : List zV} {n n1 n2 : Nat} {M : zM} {Q : zV → zM → Prop}
/-- a call of a static method -/
theorem z_calls {mt2 : zMt} {idx : Nat} {as : List zV} (hd : decode mt.2.1 pc = .ok (.invokestatic idx, 3)) (hk : zlk mt.1.cls idx mt2.1) (hm : zmk mt2 as.length) (hi : Cond.static mt2.1 ∈ zTs)
    (hsk : stk = as.reverse ++ st) (hcs : zcs st ≤ 8) (hex : (zex as).length ≤ mt2.2.2.1) (hn2 : n ≤ n2 ∧ n2 ≤ n1)
    (h : Z G d mt2 0 (zen as mt2.2.2.1) [] n n2 M (fun r M' => Z G (d + 1) mt (pc + 3) ls (zpush r st) n2 n1 M' Q)) : Z G (d + 1) mt pc ls stk n n1 M Q := by
  subst hsk
  intro oM oF oL oS p e R s m args below meth c H locs c1 s1 lsC QS X hS hr hl hll hz hn hc hs hE
  have oS1 : zokL st := fun v hv => oS v (List.mem_append_right _ hv)
  have oA : zokL as := fun v hv => oS v (List.mem_append_left _ (List.mem_reverse.mpr hv))
  refine z_wsz fun hle => ?_
  have hsz := z_low hr hS hz X.2.2.2.2.2.2.2.2 hle
  have hM := z_met hm.2.2.2.1 hex hn2.1 oM oF oA h
  have hts := zS_hts X.2.2.2.2.1 args
  have hp : PreS s H (zPc G n M as) (as.map (zc G)) :=
    ⟨z_blind, fun U hU hW => ⟨rfl, zS_move X.2.2.2.2.1 hW (fun q h1 h2 => by rw [hU]; exact hS.2.1 q h1 h2), by rw [hU]; exact hr, by rw [hU]; exact hsz⟩⟩
  have hstk : (F0 m pc lsC ((as.reverse ++ st).map (zc G))).stack = (as.map (zc G)).reverse ++ st.map (zc G) := by
    show (as.reverse ++ st).map (zc G) = _
    rw [List.map_append, List.map_reverse]
  have hfr : ({ frames := d, cells := n2 - n, slots := zsl n2 - zsl n, locals := 60 * d } : Room).frames + 1 ≤ R.frames ∧ 8 + (mt2.2.2.1 + 11) + ({ frames := d, cells := n2 - n, slots := zsl n2 - zsl n, locals := 60 * d } : Room).locals ≤ R.locals := by
    have h1 := X.2.2.2.2.2.2.1
    have h2 := X.2.2.2.2.2.2.2.1
    have h3 := hm.2.2.2.2
    constructor
    · show d + 1 ≤ R.frames; omega
    · show 8 + (mt2.2.2.1 + 11) + 60 * d ≤ R.locals; omega
  have hsl1 := zsl_mono hn2.1
  have hsl2 := zsl_mono hn2.2
  have hrun : va_Run p G.1 e R s m args below meth c H locs c1 s1 (n2 - n) (zsl n2 - zsl n) (F0 m pc lsC ((as.reverse ++ st).map (zc G))) (st.map (zc G)) (zQc G n2 (fun r M' => Z G (d + 1) mt (pc + 3) ls (zpush r st) n2 n1 M' Q) (as.map (zc G)).toArray) (zA G) := by
    rcases hk with hk | ⟨host, hk⟩
    · exact va_runS ⟨X.1, X.2.1, X.2.2.1, X.2.2.2.1, hts⟩ hM ⟨callB_of as.length hts (z_good1 hm) rfl rfl rfl (hts _ hm.2.1) (hts _ hk) hm.2.2.1 hfr, hts _ hi⟩ hp rfl (by simp) hl.1 hstk (lv_room (by rw [z_cs]; exact hcs)) hd ⟨by omega, by omega⟩
    · exact va_runSN ⟨X.1, X.2.1, X.2.2.1, X.2.2.2.1, hts⟩ hM ⟨va_cnB as.length hts (z_good1 hm) rfl rfl rfl (X.2.2.2.2.1.2.1 _ hk) (hts _ hm.2.1) hm.2.2.1 hfr, hts _ hi, trivial⟩ hp rfl (by simp) hl.1 hstk (lv_room (by rw [z_cs]; exact hcs)) hd ⟨by omega, by omega⟩
  exact z_back hrun oL oS1 X hS hl hll hz hn2.1 hn2.2 hc ⟨hsl1, hsl2⟩ hs hE
/-- a call of a constructor -/
theorem z_calli {mt2 : zMt} {idx : Nat} {b : Int} {as : List zV} (hd : decode mt.2.1 pc = .ok (.invokespecial idx, 3)) (hk : zlk mt.1.cls idx mt2.1) (hm : zmk mt2 as.length) (hi : Cond.instanceMethod mt2.1 ∈ zTs) (hnm : mt2.1.name = "<init>") (hrt : mt2.2.2.2 = none)
    (hsk : stk = as.reverse ++ (2, b) :: st) (hb : 1 ≤ b) (hcs : zcs st ≤ 8) (hex : (zex ((2, b) :: as)).length ≤ mt2.2.2.1) (hn2 : n ≤ n2 ∧ n2 ≤ n1)
    (h : Z G d mt2 0 (zen ((2, b) :: as) mt2.2.2.1) [] n n2 M (fun r M' => Z G (d + 1) mt (pc + 3) ls (zpush r st) n2 n1 M' Q)) : Z G (d + 1) mt pc ls stk n n1 M Q := by
  subst hsk
  intro oM oF oL oS p e R s m args below meth c H locs c1 s1 lsC QS X hS hr hl hll hz hn hc hs hE
  have oS1 : zokL ((2, b) :: st) := fun v hv => oS v (List.mem_append_right _ hv)
  have oA : zokL ((2, b) :: as) := z_okc (t := 2) trivial (fun v hv => oS v (List.mem_append_left _ (List.mem_reverse.mpr hv)))
  refine z_wsz fun hle => ?_
  have hsz := z_low hr hS hz X.2.2.2.2.2.2.2.2 hle
  have hM := z_met hm.2.2.2.1 hex hn2.1 oM oF oA h
  have hts := zS_hts X.2.2.2.2.1 args
  have hp : PreS s H (zPc G n M ((2, b) :: as)) (.ref (zB G + (b - 1).toNat) :: as.map (zc G)) :=
    ⟨z_blind, fun U hU hW => ⟨by rw [List.map_cons, z_rf hb], zS_move X.2.2.2.2.1 hW (fun q h1 h2 => by rw [hU]; exact hS.2.1 q h1 h2), by rw [hU]; exact hr, by rw [hU]; exact hsz⟩⟩
  have hstk : (F0 m pc lsC ((as.reverse ++ (2, b) :: st).map (zc G))).stack = (as.map (zc G)).reverse ++ .ref (zB G + (b - 1).toNat) :: st.map (zc G) := by
    show (as.reverse ++ (2, b) :: st).map (zc G) = _
    rw [List.map_append, List.map_cons, z_rf hb, List.map_reverse]
  have hfr : ({ frames := d, cells := n2 - n, slots := zsl n2 - zsl n, locals := 60 * d } : Room).frames + 1 ≤ R.frames ∧ 8 + (mt2.2.2.1 + 11) + ({ frames := d, cells := n2 - n, slots := zsl n2 - zsl n, locals := 60 * d } : Room).locals ≤ R.locals := by
    have h1 := X.2.2.2.2.2.2.1
    have h2 := X.2.2.2.2.2.2.2.1
    have h3 := hm.2.2.2.2
    constructor
    · show d + 1 ≤ R.frames; omega
    · show 8 + (mt2.2.2.1 + 11) + 60 * d ≤ R.locals; omega
  have hsl1 := zsl_mono hn2.1
  have hsl2 := zsl_mono hn2.2
  have hm' := hm
  unfold zmk at hm'
  have hgd := z_good1 hm
  rw [hrt] at hM hm' hgd
  have hrun : va_Run p G.1 e R s m args below meth c H locs c1 s1 (n2 - n) (zsl n2 - zsl n) (F0 m pc lsC ((as.reverse ++ (2, b) :: st).map (zc G))) (st.map (zc G)) (zQc G n2 (fun r M' => Z G (d + 1) mt (pc + 3) ls (zpush r st) n2 n1 M' Q) (Value.ref (zB G + (b - 1).toNat) :: as.map (zc G)).toArray) (zA G) := by
    rcases hk with hk | ⟨host, hk⟩
    · exact va_runI ⟨X.1, X.2.1, X.2.2.1, X.2.2.2.1, hts⟩ hM (cwI as.length hts hgd rfl rfl rfl (hts _ hm.2.1) (hts _ hk) (hts _ hi) hnm hm.2.2.1 hfr) hp rfl (by simp) hl.1 hstk (lv_room (by rw [z_cs]; exact hcs)) hd ⟨by omega, by omega⟩
    · exact va_runIN ⟨X.1, X.2.1, X.2.2.1, X.2.2.2.1, hts⟩ hM ⟨va_cnB as.length hts hgd rfl rfl rfl (X.2.2.2.2.1.2.1 _ hk) (hts _ hm.2.1) hm.2.2.1 hfr, hnm, hts _ hi⟩ hp rfl (by simp) hl.1 hstk (lv_room (by rw [z_cs]; exact hcs)) hd ⟨by omega, by omega⟩
  exact z_back hrun oL (z_okt oS1) X hS hl hll hz hn2.1 hn2.2 hc ⟨hsl1, hsl2⟩ hs hE
-- returns
theorem z_iretn {x : Int} (hd : decode mt.2.1 pc = .ok (.ireturn, 1)) (hr : ∃ ty, mt.2.2.2 = some ty ∧ narrow ty (.int (Int32.ofInt x)) = .int (Int32.ofInt x)) (hn1 : n = n1) (h : Q (0, x) M) : Z G d mt pc ls [(0, x)] n n1 M Q := by
  subst hn1
  intro oM oF oL oS p e R s m args below meth c H locs c1 s1 lsC QS X hS hr' hl hll hz hn hc hs hE
  exact (hE (0, x) M H locs c1 s1 pc lsC oM oF (z_okh oS) h hr' hS hz (by omega) (by omega)).1 rfl hr hd
theorem z_ireturn {x : Int} (hd : decode mt.2.1 pc = .ok (.ireturn, 1)) (hr : mt.2.2.2 = some .int ∨ (mt.2.2.2 = some .boolean ∧ 0 ≤ x ∧ x ≤ 1)) (hn1 : n = n1) (h : Q (0, x) M) : Z G d mt pc ls [(0, x)] n n1 M Q := by
  refine z_iretn hd ?_ hn1 h
  rcases hr with hr | ⟨hr, q1, q2⟩
  · exact ⟨_, hr, rfl⟩
  · refine ⟨_, hr, ?_⟩
    have : x = 0 ∨ x = 1 := by omega
    rcases this with rfl | rfl
    · exact (show narrow .boolean (.int (Int32.ofInt 0)) = .int (Int32.ofInt 0) by decide +kernel)
    · exact (show narrow .boolean (.int (Int32.ofInt 1)) = .int (Int32.ofInt 1) by decide +kernel)
theorem z_lreturn {x : Int} (hd : decode mt.2.1 pc = .ok (.lreturn, 1)) (hr : mt.2.2.2 = some .long) (hn1 : n = n1) (h : Q (1, x) M) : Z G d mt pc ls [(1, x)] n n1 M Q := by
  subst hn1
  intro oM oF oL oS p e R s m args below meth c H locs c1 s1 lsC QS X hS hr' hl hll hz hn hc hs hE
  exact (hE (1, x) M H locs c1 s1 pc lsC oM oF (z_okh oS) h hr' hS hz (by omega) (by omega)).2.1 rfl hr hd
theorem z_return (hd : decode mt.2.1 pc = .ok (.return_, 1)) (hr : mt.2.2.2 = none) (hn1 : n = n1) (h : Q (9, 0) M) : Z G d mt pc ls [] n n1 M Q := by
  subst hn1
  intro oM oF oL oS p e R s m args below meth c H locs c1 s1 lsC QS X hS hr' hl hll hz hn hc hs hE
  exact (hE (9, 0) M H locs c1 s1 pc lsC oM oF trivial h hr' hS hz (by omega) (by omega)).2.2 rfl hr hd
end ZR
