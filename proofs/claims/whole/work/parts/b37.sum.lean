/-! sums and products in step -/
def OUTQ (C : Nat × Nat) (c0 : cd_S) (m0 : md_S) (b : cd_B) (fc : Option Lp) (fm : Option (md_S × Int32)) (Ok : cd_S → cd_B → md_S → Int32 → Prop) (Pn : cd_S → cd_B → Prop) : Prop :=
  ∃ m' x, fm = some (m', x) ∧ MI m0 m' ∧
   ((∃ c' b' i, fc = some (Sum.inr (c', b', i)) ∧ CI C c0 b c' b' ∧ Ok c' b' m' x) ∨
    (∃ pl, OPL C c0 b fc pl Pn ∧ NF m' 1 pl) ∨
    (∃ c' b' k pl, fc = some (Sum.inl (Sum.inr (c', b'))) ∧ TX C c0 b c' b' k pl ∧ NF m' k pl))
theorem outq_ck {C : Nat × Nat} {c0 : cd_S} {m0 : md_S} {b : cd_B} {fc : Option Lp} {fm : Option (md_S × Int32)} {Ok : cd_S → cd_B → md_S → Int32 → Prop} {Pn : cd_S → cd_B → Prop} (h : OUTQ C c0 m0 b fc fm Ok Pn) : OUTQ C c0 m0 b (cd_ck lF b fc) fm Ok Pn := by
  obtain ⟨m', x, e1, e2, h | ⟨pl, h, hn⟩ | h⟩ := h
  · obtain ⟨c', b', i, e, h1, h2⟩ := h
    exact ⟨m', x, e1, e2, Or.inl ⟨c', b', i, ckl_inr e h1.2.1, h1, h2⟩⟩
  · exact ⟨m', x, e1, e2, Or.inr (Or.inl ⟨pl, opl_ck h, hn⟩)⟩
  · obtain ⟨c', b', k, pl, e, h1, h2⟩ := h
    exact ⟨m', x, e1, e2, Or.inr (Or.inr ⟨c', b', k, pl, ckl_inl e h1.2.2.2.1, h1, h2⟩)⟩
theorem OUTQ.low {C : Nat × Nat} {c0 : cd_S} {m0 : md_S} {b b1 : cd_B} {fc : Option Lp} {fm : Option (md_S × Int32)} {Ok : cd_S → cd_B → md_S → Int32 → Prop} {Pn : cd_S → cd_B → Prop} (h : OUTQ C c0 m0 b1 fc fm Ok Pn) (hb : ble b1 b) : OUTQ C c0 m0 b fc fm Ok Pn := by
  obtain ⟨m', x, e1, e2, h | ⟨pl, h, hn⟩ | h⟩ := h
  · obtain ⟨c', b', i, e, h1, h2⟩ := h
    exact ⟨m', x, e1, e2, Or.inl ⟨c', b', i, e, h1.low hb, h2⟩⟩
  · exact ⟨m', x, e1, e2, Or.inr (Or.inl ⟨pl, h.low hb, hn⟩)⟩
  · obtain ⟨c', b', k, pl, e, h1, h2⟩ := h
    exact ⟨m', x, e1, e2, Or.inr (Or.inr ⟨c', b', k, pl, e, h1.low hb, h2⟩)⟩
theorem outq_seq {C : Nat × Nat} {c0 : cd_S} {m0 : md_S} {b : cd_B} {fc1 : Option Th} {fm1 : Option (Int32 × md_S)} {Ok1 : Int32 → cd_S → cd_B → Int32 → md_S → Prop} {Ok : cd_S → cd_B → md_S → Int32 → Prop} {Pn1 Pn : cd_S → cd_B → Prop} {RC : Int32 × cd_S × cd_B → Option Lp} {RM : Int32 × md_S → Option (md_S × Int32)} (h : OUT C c0 m0 b fc1 fm1 Ok1 Pn1)
    (hok : ∀ v c' b' x m', CI C c0 b c' b' → MI m0 m' → Ok1 v c' b' x m' → OUTQ C c0 m0 b' (RC (v, c', b')) (RM (x, m')) Ok Pn)
    (hpn : ∀ v c' b' pl, CI C c0 b c' b' → BW c' pl → Pn1 c' b' → OPL C c0 b' (RC (v, c', b')) pl Pn)
    (hnf : ∀ x m' k pl, MI m0 m' → NF m' k pl → ∃ m2 x2, RM (x, m') = some (m2, x2) ∧ MI m0 m2 ∧ NF m2 k pl) :
    OUTQ C c0 m0 b (Option.bind fc1 fun q => cd_ck lF (Sum.elim (fun (p : Int32 × cd_S × cd_B) => p.2.2) (fun (t : cd_S × cd_B) => t.2) q) <| Sum.elim RC (fun t => some (Sum.inl (Sum.inr t))) q) (Option.bind fm1 RM) Ok Pn := by
  obtain ⟨x, m', e1, e2, h | ⟨pl, h, hn⟩ | h⟩ := h
  · obtain ⟨v, c', b', e, a1, a2⟩ := h
    rw [e, e1, bs_some, bs_some]
    exact (outq_ck (hok v c' b' x m' a1 e2 a2)).low a1.2.1
  · obtain ⟨m2, x2, g1, g2, g3⟩ := hnf x m' 1 pl e2 hn
    refine ⟨m2, x2, by rw [e1, bs_some, g1], g2, Or.inr (Or.inl ⟨pl, ?_, g3⟩)⟩
    exact opl_seq h (fun v c' b' => hpn v c' b' pl)
  · obtain ⟨c', b', k, pl, e, a1, a2⟩ := h
    obtain ⟨m2, x2, g1, g2, g3⟩ := hnf x m' k pl e2 a2
    refine ⟨m2, x2, by rw [e1, bs_some, g1], g2, Or.inr (Or.inr ⟨c', b', k, pl, ?_, a1, g3⟩)⟩
    rw [e, bs_some]
    exact ckl_inl rfl (ble.refl _)
theorem outq_c {C : Nat × Nat} {c0 : cd_S} {m0 : md_S} {b : cd_B} {fc1 : Option Th} {v : Int32} {c1 : cd_S} {fm : Option (md_S × Int32)} {Ok : cd_S → cd_B → md_S → Int32 → Prop} {Pn : cd_S → cd_B → Prop} {RC : Int32 × cd_S × cd_B → Option Lp} (h : fc1 = some (Sum.inl (v, c1, b))) (hok : OUTQ C c0 m0 b (RC (v, c1, b)) fm Ok Pn) : OUTQ C c0 m0 b (Option.bind fc1 fun q => cd_ck lF (Sum.elim (fun (p : Int32 × cd_S × cd_B) => p.2.2) (fun (t : cd_S × cd_B) => t.2) q) <| Sum.elim RC (fun t => some (Sum.inl (Sum.inr t))) q) fm Ok Pn := by
  rw [h, bs_some]
  exact outq_ck hok
theorem outq_thr {C : Nat × Nat} {c0 c : cd_S} {m0 : md_S} {b b1 b' : cd_B} {fc1 : Option Th} {c' : cd_S} {k pl : Nat} {fm : Option (md_S × Int32)} {m' : md_S} {x : Int32} {Ok : cd_S → cd_B → md_S → Int32 → Prop} {Pn : cd_S → cd_B → Prop} {RC : Int32 × cd_S × cd_B → Option Lp} (h : fc1 = some (Sum.inr (c', b'))) (ht : THR C c c' b1 b' k pl) (hc : CI C c0 b c b1) (hb : ble b1 b) (hm : fm = some (m', x)) (hM : MI m0 m') (hn : NF m' k pl) : OUTQ C c0 m0 b (Option.bind fc1 fun q => cd_ck lF (Sum.elim (fun (p : Int32 × cd_S × cd_B) => p.2.2) (fun (t : cd_S × cd_B) => t.2) q) <| Sum.elim RC (fun t => some (Sum.inl (Sum.inr t))) q) fm Ok Pn := by
  refine ⟨m', x, hm, hM, Or.inr (Or.inr ⟨c', b', k, pl, ?_, (ht.tx hc).low hb, hn⟩)⟩
  rw [h, bs_some]
  exact ckl_inl rfl (ble.refl _)
theorem outq_em {C : Nat × Nat} {c0 : cd_S} {m0 : md_S} {b b1 : cd_B} {fe : Option (Int32 × cd_S × cd_B)} {v : Int32} {c1 : cd_S} {fm : Option (md_S × Int32)} {Ok : cd_S → cd_B → md_S → Int32 → Prop} {Pn : cd_S → cd_B → Prop} {RC : Int32 × cd_S × cd_B → Option Lp} (h : fe = some (v, c1, b1)) (hb : ble b1 b) (hok : OUTQ C c0 m0 b1 (RC (v, c1, b1)) fm Ok Pn) : OUTQ C c0 m0 b (Option.bind fe fun p => cd_ck lF (p.2.2) <| RC p) fm Ok Pn := by
  rw [h, bs_some]
  exact (outq_ck hok).low hb
theorem out_loopq {C : Nat × Nat} {c0 : cd_S} {m0 : md_S} {b : cd_B} {fc1 : Option Lp} {fm1 : Option (md_S × Int32)} {Ok1 : cd_S → cd_B → md_S → Int32 → Prop} {Ok : Int32 → cd_S → cd_B → Int32 → md_S → Prop} {Pn1 Pn : cd_S → cd_B → Prop} {RC : cd_S × cd_B × Int32 → Option Th} {RM : md_S × Int32 → Option (Int32 × md_S)} (h : OUTQ C c0 m0 b fc1 fm1 Ok1 Pn1)
    (hok : ∀ c' b' i m' x, CI C c0 b c' b' → MI m0 m' → Ok1 c' b' m' x → OUT C c0 m0 b' (RC (c', b', i)) (RM (m', x)) Ok Pn)
    (hpn : ∀ c' b' i pl, CI C c0 b c' b' → BW c' pl → Pn1 c' b' → OP C c0 b' (RC (c', b', i)) pl Pn)
    (hnf : ∀ m' x k pl, MI m0 m' → NF m' k pl → ∃ x2 m2, RM (m', x) = some (x2, m2) ∧ MI m0 m2 ∧ NF m2 k pl) :
    OUT C c0 m0 b (Option.bind fc1 fun q => cd_ck sF (Sum.elim (fun (q : ((Int32 × cd_S × cd_B) ⊕ (cd_S × cd_B))) => Sum.elim (fun (p : (Int32 × cd_S × cd_B)) => p.2.2) (fun (t : cd_S × cd_B) => t.2) q) (fun (q : cd_S × cd_B × Int32) => q.2.1) q) <| Sum.elim some RC q) (Option.bind fm1 RM) Ok Pn := by
  obtain ⟨m', x, e1, e2, h | ⟨pl, h, hn⟩ | h⟩ := h
  · obtain ⟨c', b', i, e, a1, a2⟩ := h
    rw [e, e1, bs_some, bs_some]
    exact (out_ck (hok c' b' i m' x a1 e2 a2)).low a1.2.1
  · obtain ⟨x2, m2, g1, g2, g3⟩ := hnf m' x 1 pl e2 hn
    refine ⟨x2, m2, by rw [e1, bs_some, g1], g2, Or.inr (Or.inl ⟨pl, ?_, g3⟩)⟩
    exact op_loop h (fun c' b' i => hpn c' b' i pl)
  · obtain ⟨c', b', k, pl, e, a1, a2⟩ := h
    obtain ⟨x2, m2, g1, g2, g3⟩ := hnf m' x k pl e2 a2
    refine ⟨x2, m2, by rw [e1, bs_some, g1], g2, Or.inr (Or.inr ⟨c', b', k, pl, ?_, a1, g3⟩)⟩
    rw [e, bs_some]
    exact ck_inr rfl (ble.refl _)
/-- one more operand, within a loop -/
theorem op_body {n : Nat} {C : Nat × Nat} {B : Nat → Int32} {N : Nat} {rc : cd_R} {rm : md_R} {a t : Int32} {tc tm dm kd pwl : Nat} {LPc : Int32 × cd_S × cd_B → Option Lp} {LPm : md_S → Int32 → Option (md_S × Int32)} (hC : BC C) (hn : 5000 ≤ n) (hkd : kd ≤ 30) (hpw : pwl + 1 < 6) (hx : EX C B N (fun c b => rc tc 0 a 0 c b) (fun m => rm tm 0 0 0 m) dm kd (pwl + 1)) (hnx : NFX (fun m => rm tm 0 0 0 m)) (hbx : BWX C (fun c b => rc tc 0 a 0 c b)) (ht : t = 11 ∨ t = 12 ∨ t = 13 ∨ t = 14 ∨ t = 15)
    {c0 c c1 : cd_S} {m0 m m1 : md_S} {b : cd_B} {v x : Int32} {w : WD} {L1 L : List WD} {O : List Nat} {mc k kl k0 kl0 : Nat} {Ok : cd_S → cd_B → md_S → Int32 → Prop} {Pn : cd_S → cd_B → Prop} (hc : CI C c0 b c1 b) (hm : MI m0 m1) (hs0 : ST c m O mc k0 kl0) (h63 : mI m 63 = nI dm) (hkl : kl ≤ kd) (h : LX B N c1 m1 w L1) (hl : L1.length < L.length) (hk : wK w ≠ 0) (hE : EOk pwl B N c m O mc k kl L v c1 b x m1)
    (hcont : ∀ c7 b7 m7 i w7 L7, CI C c0 b7 c7 b7 → MI m0 m7 → LX B N c7 m7 w7 L7 → L7.length < L1.length → EOk pwl B N c m O mc k kl L 0 c7 b7 (nI i) m7 → OUTQ C c0 m0 b7 (LPc (0, c7, b7)) (LPm m7 (nI i)) Ok Pn)
    (hbwc : ∀ c7 b7 pl, CI C c0 b7 c7 b7 → BW c7 pl → CS c7 k → cN c 66 ≤ cN c7 66 → OPL C c0 b7 (LPc (0, c7, b7)) pl Pn)
    (hnfm : ∀ m7 y k pl, MI m0 m7 → NF m7 k pl → ∃ m2 x2, LPm m7 y = some (m2, x2) ∧ MI m0 m2 ∧ NF m2 k pl) :
    OUTQ C c0 m0 b (Option.bind (f_X4_part n c1 b) fun q3 => cd_ck lF (Sum.elim (fun (p : Int32 × cd_S × cd_B) => p.2.2) (fun (t : cd_S × cd_B) => t.2) q3) <| Sum.elim (fun p3 => Option.bind (f_X10_advance n p3.2.1) fun p5 => Option.bind (rc tc 0 a 0 p5.2 p3.2.2) fun q6 => cd_ck lF (Sum.elim (fun (p : Int32 × cd_S × cd_B) => p.2.2) (fun (t : cd_S × cd_B) => t.2) q6) <| Sum.elim (fun p6 => Option.bind (cd_dp p6.2.1 136 0) fun u8 => Option.bind (f_X9_emit n p6.2.1 p6.2.2 u8 t 0 0) fun p9 => cd_ck lF p9.2.2 <| LPc p9) (fun t => some (Sum.inl (Sum.inr t))) q6) (fun t => some (Sum.inl (Sum.inr t))) q3) (Option.bind (f_X12_operation n m1 t x) fun p2 => Option.bind (rm tm 0 0 0 p2.2) fun p3 => Option.bind (f_X12_gets n p3.2 p2.1 p3.1) fun p4 => LPm p4.2 p2.1) Ok Pn := by
  obtain ⟨-, hs1, hg1, hp1, f, r, es, l0, l1, ns, rfl, y0, y1, yb0, yb1, ⟨hG, hW⟩, hb, h71, hL, hcv⟩ := hE
  obtain ⟨gl, hgl⟩ := ω2_l (a := pwl) (b := pwl + 1) hW (Nat.le_refl _)
  rcases op_ok (n := n) (t := t) hC hn hc hm h hk hs0 hs1 (by omega) hg1 hG hb h71 hcv hgl with ⟨c', b', m', e1, e2, e3, e4, e5⟩ | ⟨c2, c3, m5, i, w', L', e1, e2, e3, hL', hi9, hCI3, hMI5, hcn, hcs3, hcase⟩
  · obtain ⟨x2, m2, g1, g2, g3⟩ := hnx m0 m' 4 (wF w) e4 e5
    obtain ⟨m8, x8, j1, j2, j3⟩ := hnfm m2 0 4 (wF w) g2 g3
    refine outq_thr e1 e3 hc (ble.refl _) (x := x8) (m' := m8) ?_ j2 j3
    rw [e2, bs_some]
    dsimp only
    rw [show rm tm 0 0 0 m' = _ from g1, bs_some]
    dsimp only
    rw [nf_gets g3, bs_some]
    exact j1
  · refine outq_c e1 ?_
    dsimp only
    rw [e2, bs_some, e3, bs_some]
    dsimp only
    rcases hcase with ⟨hX, hpt, k66, k68, k69, hs5, hg5, hp5, hL5, hl5, hcv5⟩ | ⟨hbw, hnf⟩
    · refine outq_seq (hx c0 m0 c3 m5 b w' L' O mc (k + 6) kl hCI3 hMI5 hX (hs5.debt (by omega) (by omega) (Nat.le_refl _)) (hg5.n63.trans h63) hkl) ?_ ?_ ?_
      · intro v2 c6 b6 x2 m6 hc6 hm6 hE6
        dsimp only
        obtain ⟨w6, L6, hX6, hl6⟩ := hE6.1
        obtain ⟨b7, m7, d1, d2, d3, d4, d5, d6, d7, w7, L7, hX7, hl7⟩ := last_ok (n := n) (t := t) (a := 0) (bb := 0) (L := L) (L3 := L') hC hn hc6 hm6 hs0 (op_ne ht) hpt k66 k68 k69 (fun q q1 q2 q3 _ => WFN.op ht q1 q2 q3) hs5 hg5 y0 (hl5.trans y1) yb0 yb1 (by rw [hL5, hL]; simp) (by omega) (by rw [hL'] at hl; simp at hl; omega) hcv5 (ω2_c hpw).1 (ω2_c hpw).2 (ω2_f (pwr := pwl) (Nat.le_refl _) (Nat.le_refl _) (by omega) hpw) (by omega) hE6
        rw [d1, bs_some]
        refine outq_em d2 d4 ?_
        rw [d3, bs_some]
        dsimp only
        exact hcont _ b7 m7 i w7 L7 d5 d6 hX7 (by rw [hL']; simp; omega) d7
      · rintro v2 c6 b6 pl hc6 hbw ⟨hcs, hle⟩
        dsimp only
        obtain ⟨u, b7, u1, u2, u3, u4, u5, u6, u7⟩ := CS.em (n := n) (k := k + 5) (x := t) (y := 0) (z := 0) hC hcs hc6
        rw [u2, bs_some]
        refine opl_em u3 u4 ?_
        exact hbwc _ b7 pl u5 hbw.em (u6.less (by omega)) (by rw [u7]; omega)
      · intro x2 m6 k2 pl h1 h2
        dsimp only
        rw [nf_gets h2, bs_some]
        exact hnfm m6 (nI i) k2 pl h1 h2
    · obtain ⟨x2, m2, g1, g2, g3⟩ := hnx m0 m5 1 (wF w') hMI5 hnf
      obtain ⟨m8, x8, j1, j2, j3⟩ := hnfm m2 (nI i) 1 (wF w') g2 g3
      refine ⟨m8, x8, ?_, j2, Or.inr (Or.inl ⟨wF w', ?_, j3⟩)⟩
      · rw [show rm tm 0 0 0 m5 = _ from g1, bs_some]
        dsimp only
        rw [nf_gets g3, bs_some]
        exact j1
      · exact opl_seq (Pn1 := fun _ _ => False) (hbx c0 c3 b (wF w') hCI3 hbw) (fun _ _ _ _ _ y => y.elim)
