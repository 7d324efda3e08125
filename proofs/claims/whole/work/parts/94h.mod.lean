set_option maxHeartbeats 4000000 in
set_option maxRecDepth 100000 in
theorem km_X12_bitsOf (l : Launch) (D : va_G) (cA : Nat → ClassId) (E : hp_N) (sz : Nat) (ad : Nat → Nat) (hj : md_inj ad) (hE : md_E E) (n : Nat) (σ0 : md_S) (a1 : Int64) (a3 : Int32) (p : (Int32 × md_S)) (h : f_X12_bitsOf n σ0 a1 a3 = some p) : Met l yX12_bitsOf (Cond.code yX12_bitsOf cX12_bitsOf 6 (some .int) :: v_MOD) ({ frames := 3, cells := 0, slots := 0, locals := 76 }) (hp_Pc D vwCl (hp_Tl cA) E sz (md_pic cA ad σ0) [.ref (ad 137), .long a1, .int a3]) (hp_Qi D vwCl (hp_Tl cA) sz (md_pic cA ad σ0) (fun r u => r = p.1 ∧ u = md_pic cA ad p.2)) 0 0 (hp_A (md_pic cA ad σ0) sz) := by
  refine hp_ofW (cc := cX12_bitsOf) (maxL := 6) (ret := (some .int)) (by decide) rfl (Nat.le_of_ble_eq_true rfl) ?_
  intro pp ee ss mm bb mt cd ls cx hsz hw hl
  have hl : lv_has ls 6 [(0, .ref (ad 137)), (1, .long a1), (3, .int a3)] := hl
  refine lv_iconst (v := 0) cx.1 cx.2.1 dX12_bitsOf_0 (by decide) ?_
  refine lv_istore (lv' := [(4, .int 0), (0, .ref (ad 137)), (1, .long a1), (3, .int a3)]) cx.1 cx.2.1 dX12_bitsOf_1 hl (by decide) rfl (fun ls hl => ?_)
  refine lv_iconst (v := 0) cx.1 cx.2.1 dX12_bitsOf_3 (by decide) ?_
  refine lv_istore (lv' := [(5, .int 0), (4, .int 0), (0, .ref (ad 137)), (1, .long a1), (3, .int a3)]) cx.1 cx.2.1 dX12_bitsOf_4 hl (by decide) rfl (fun ls hl => ?_)
  have L6 : ∀ (j : Nat) (σ : md_S) (l1 : Int64) (l3 : Int32) (l4 : Int32) (l5 : Int32) (q : (md_S × Int32 × Int32)) (H : Heap) (locs : List Loc) (ls : Array Slot), f_X12_bitsOf_L6 n l1 l3 j σ l4 l5 = some q → hp_w D vwCl (hp_Tl cA) E (hp_A (md_pic cA ad σ0) sz) ss H locs (md_pic cA ad σ) → lv_has ls 6 [(0, .ref (ad 137)), (1, .long l1), (3, .int l3), (4, .int l4), (5, .int l5)] → (∀ (H : Heap) (locs : List Loc) (ls : Array Slot), hp_w D vwCl (hp_Tl cA) E (hp_A (md_pic cA ad σ0) sz) ss H locs (md_pic cA ad q.1) → lv_has ls 6 [(0, .ref (ad 137)), (1, .long l1), (3, .int l3), (4, .int q.2.1)] → W pp l ee ({ frames := 3, cells := 0, slots := 0, locals := 76 }) ss mm [.ref (ad 137), .long a1, .int a3].toArray bb mt cd H locs 0 0 (MQ bb (hp_Qi D vwCl (hp_Tl cA) sz (md_pic cA ad σ0) (fun r u => r = p.1 ∧ u = md_pic cA ad p.2)) [.ref (ad 137), .long a1, .int a3].toArray ss 0 0 (hp_A (md_pic cA ad σ0) sz)) (F0 mm 45 ls [])) → W pp l ee ({ frames := 3, cells := 0, slots := 0, locals := 76 }) ss mm [.ref (ad 137), .long a1, .int a3].toArray bb mt cd H locs 0 0 (MQ bb (hp_Qi D vwCl (hp_Tl cA) sz (md_pic cA ad σ0) (fun r u => r = p.1 ∧ u = md_pic cA ad p.2)) [.ref (ad 137), .long a1, .int a3].toArray ss 0 0 (hp_A (md_pic cA ad σ0) sz)) (F0 mm 6 ls []) := by
    intro j
    induction j with
    | zero => intro σ l1 l3 l4 l5 q H locs ls h; exact nomatch h
    | succ j ih =>
      intro σ l1 l3 l4 l5 q H locs ls h hw hl K
      have J36 : ∀ (σ : md_S) (l5 : Int32) (t0 : Int32) (t1 : Int32) (H : Heap) (locs : List Loc) (ls : Array Slot), f_X12_bitsOf_J36 n l1 l3 (f_X12_bitsOf_L6 n l1 l3 j) σ l5 t0 t1 = some q → hp_w D vwCl (hp_Tl cA) E (hp_A (md_pic cA ad σ0) sz) ss H locs (md_pic cA ad σ) → lv_has ls 6 [(0, .ref (ad 137)), (1, .long l1), (3, .int l3), (5, .int l5)] → W pp l ee ({ frames := 3, cells := 0, slots := 0, locals := 76 }) ss mm [.ref (ad 137), .long a1, .int a3].toArray bb mt cd H locs 0 0 (MQ bb (hp_Qi D vwCl (hp_Tl cA) sz (md_pic cA ad σ0) (fun r u => r = p.1 ∧ u = md_pic cA ad p.2)) [.ref (ad 137), .long a1, .int a3].toArray ss 0 0 (hp_A (md_pic cA ad σ0) sz)) (F0 mm 36 ls [.int t0, .int t1]) := by
        intro σ l5 t0 t1 H locs ls h hw hl
        refine lv_ior cx.1 cx.2.1 dX12_bitsOf_36 ?_
        refine lv_istore (lv' := [(4, .int (t1 ||| t0)), (0, .ref (ad 137)), (1, .long l1), (3, .int l3), (5, .int l5)]) cx.1 cx.2.1 dX12_bitsOf_37 hl (by decide) rfl (fun ls hl => ?_)
        refine lv_iinc (v := (l5 + 1)) (lv' := [(5, .int (l5 + 1)), (4, .int (t1 ||| t0)), (0, .ref (ad 137)), (1, .long l1), (3, .int l3)]) cx.1 cx.2.1 dX12_bitsOf_39 hl (k := 4) rfl rfl (by decide) rfl (fun ls hl => ?_)
        refine lv_goto (tgt := 6) cx.1 cx.2.1 dX12_bitsOf_42 (by decide) ?_
        exact ih σ l1 l3 ((t1 ||| t0)) ((l5 + 1)) q _ _ _ h hw (lv_sub hl [2, 3, 4, 1, 0] rfl) K
      refine lv_iload cx.1 cx.2.1 dX12_bitsOf_6 (lv_at hl 4 rfl) ?_
      refine lv_aload_n cx.1 cx.2.1 dX12_bitsOf_8 rfl (lv_at hl 0 rfl) ?_
      refine md_gI (k := 34) cx hw hin12c rfl (by decide) (List.mem_cons_of_mem _ mm_136) dX12_bitsOf_9 ?_
      refine lv_icmp_ge (tgt := 45) cx.1 cx.2.1 dX12_bitsOf_12 (by decide) (fun c12 => ?_) (fun c12 => ?_)
      · have h := md_ip c12 h
        obtain rfl := Option.some.inj h
        exact K _ _ _ hw (lv_sub hl [0, 1, 2, 3] rfl)
      · have h := md_in c12 h
        refine lv_iload cx.1 cx.2.1 dX12_bitsOf_15 (lv_at hl 3 rfl) ?_
        refine lv_aload_n cx.1 cx.2.1 dX12_bitsOf_17 rfl (lv_at hl 0 rfl) ?_
        refine lv_iload cx.1 cx.2.1 dX12_bitsOf_18 (lv_at hl 4 rfl) ?_
        refine lv_lload_n cx.1 cx.2.1 dX12_bitsOf_20 rfl (lv_at hl 1 rfl) ?_
        refine lv_iload_n cx.1 cx.2.1 dX12_bitsOf_21 rfl (lv_at hl 2 rfl) ?_
        obtain ⟨p1, e_p1, h⟩ := md_ob h
        refine hp_callVi (As := [.int l5, .long l1, .int l3]) (rest := [.int l4]) cx hw (km_X12_hasDomain l D cA E _ ad hj hE n σ l5 l1 l3 p1 e_p1) (cwV 3 cx.2.2.2.2.2.1 (md_giV mm_494 mm_495 mm_496 mm_5 mm_497) rfl rfl rfl hd_X12_hasDomain ⟨Nat.le_of_ble_eq_true rfl, Nat.le_of_ble_eq_true rfl⟩) md_at0 rfl rfl hl.1 rfl (Nat.le_of_ble_eq_true rfl) dX12_bitsOf_22 ⟨Nat.le_refl _, Nat.le_refl _⟩ (fun r u H locs hp hw => ?_)
        obtain ⟨rfl, rfl⟩ := hp
        refine lv_if_eq (tgt := 35) cx.1 cx.2.1 dX12_bitsOf_25 (by decide) (fun c25 => ?_) (fun c25 => ?_)
        · have h := md_ip c25 h
          refine lv_iconst (v := 0) cx.1 cx.2.1 dX12_bitsOf_35 (by decide) ?_
          exact J36 p1.2 l5 0 l4 _ _ _ h hw (lv_sub hl [0, 1, 2, 4] rfl)
        · have h := md_in c25 h
          refine lv_iconst (v := 1) cx.1 cx.2.1 dX12_bitsOf_28 (by decide) ?_
          refine lv_iload cx.1 cx.2.1 dX12_bitsOf_29 (lv_at hl 4 rfl) ?_
          refine lv_ishl cx.1 cx.2.1 dX12_bitsOf_31 ?_
          refine lv_goto (tgt := 36) cx.1 cx.2.1 dX12_bitsOf_32 (by decide) ?_
          exact J36 p1.2 l5 (((1 : Int32) <<< (l5 &&& 31))) l4 _ _ _ h hw (lv_sub hl [0, 1, 2, 4] rfl)
  obtain ⟨q2, e_q2, h⟩ := md_ob h
  refine L6 n σ0 a1 a3 0 0 q2 _ _ _ e_q2 hw (lv_sub hl [2, 3, 4, 1, 0] rfl) (fun H locs ls hw hl => ?_)
  refine lv_iconst (v := 0) cx.1 cx.2.1 dX12_bitsOf_45 (by decide) ?_
  refine lv_istore (lv' := [(5, .int 0), (0, .ref (ad 137)), (1, .long a1), (3, .int a3), (4, .int q2.2.1)]) cx.1 cx.2.1 dX12_bitsOf_46 hl (by decide) rfl (fun ls hl => ?_)
  have L48 : ∀ (j : Nat) (σ : md_S) (l1 : Int64) (l3 : Int32) (l4 : Int32) (l5 : Int32) (q : (md_S × Int32 × Int32)) (H : Heap) (locs : List Loc) (ls : Array Slot), f_X12_bitsOf_L48 n l1 l3 j σ l4 l5 = some q → hp_w D vwCl (hp_Tl cA) E (hp_A (md_pic cA ad σ0) sz) ss H locs (md_pic cA ad σ) → lv_has ls 6 [(0, .ref (ad 137)), (1, .long l1), (3, .int l3), (4, .int l4), (5, .int l5)] → (∀ (H : Heap) (locs : List Loc) (ls : Array Slot), hp_w D vwCl (hp_Tl cA) E (hp_A (md_pic cA ad σ0) sz) ss H locs (md_pic cA ad q.1) → lv_has ls 6 [(4, .int q.2.1)] → W pp l ee ({ frames := 3, cells := 0, slots := 0, locals := 76 }) ss mm [.ref (ad 137), .long a1, .int a3].toArray bb mt cd H locs 0 0 (MQ bb (hp_Qi D vwCl (hp_Tl cA) sz (md_pic cA ad σ0) (fun r u => r = p.1 ∧ u = md_pic cA ad p.2)) [.ref (ad 137), .long a1, .int a3].toArray ss 0 0 (hp_A (md_pic cA ad σ0) sz)) (F0 mm 90 ls [])) → W pp l ee ({ frames := 3, cells := 0, slots := 0, locals := 76 }) ss mm [.ref (ad 137), .long a1, .int a3].toArray bb mt cd H locs 0 0 (MQ bb (hp_Qi D vwCl (hp_Tl cA) sz (md_pic cA ad σ0) (fun r u => r = p.1 ∧ u = md_pic cA ad p.2)) [.ref (ad 137), .long a1, .int a3].toArray ss 0 0 (hp_A (md_pic cA ad σ0) sz)) (F0 mm 48 ls []) := by
    intro j
    induction j with
    | zero => intro σ l1 l3 l4 l5 q H locs ls h; exact nomatch h
    | succ j ih =>
      intro σ l1 l3 l4 l5 q H locs ls h hw hl K
      have J81 : ∀ (σ : md_S) (l5 : Int32) (t0 : Int32) (t1 : Int32) (H : Heap) (locs : List Loc) (ls : Array Slot), f_X12_bitsOf_J81 n l1 l3 (f_X12_bitsOf_L48 n l1 l3 j) σ l5 t0 t1 = some q → hp_w D vwCl (hp_Tl cA) E (hp_A (md_pic cA ad σ0) sz) ss H locs (md_pic cA ad σ) → lv_has ls 6 [(0, .ref (ad 137)), (1, .long l1), (3, .int l3), (5, .int l5)] → W pp l ee ({ frames := 3, cells := 0, slots := 0, locals := 76 }) ss mm [.ref (ad 137), .long a1, .int a3].toArray bb mt cd H locs 0 0 (MQ bb (hp_Qi D vwCl (hp_Tl cA) sz (md_pic cA ad σ0) (fun r u => r = p.1 ∧ u = md_pic cA ad p.2)) [.ref (ad 137), .long a1, .int a3].toArray ss 0 0 (hp_A (md_pic cA ad σ0) sz)) (F0 mm 81 ls [.int t0, .int t1]) := by
        intro σ l5 t0 t1 H locs ls h hw hl
        refine lv_ior cx.1 cx.2.1 dX12_bitsOf_81 ?_
        refine lv_istore (lv' := [(4, .int (t1 ||| t0)), (0, .ref (ad 137)), (1, .long l1), (3, .int l3), (5, .int l5)]) cx.1 cx.2.1 dX12_bitsOf_82 hl (by decide) rfl (fun ls hl => ?_)
        refine lv_iinc (v := (l5 + 1)) (lv' := [(5, .int (l5 + 1)), (4, .int (t1 ||| t0)), (0, .ref (ad 137)), (1, .long l1), (3, .int l3)]) cx.1 cx.2.1 dX12_bitsOf_84 hl (k := 4) rfl rfl (by decide) rfl (fun ls hl => ?_)
        refine lv_goto (tgt := 48) cx.1 cx.2.1 dX12_bitsOf_87 (by decide) ?_
        exact ih σ l1 l3 ((t1 ||| t0)) ((l5 + 1)) q _ _ _ h hw (lv_sub hl [2, 3, 4, 1, 0] rfl) K
      refine lv_iload cx.1 cx.2.1 dX12_bitsOf_48 (lv_at hl 4 rfl) ?_
      refine lv_aload_n cx.1 cx.2.1 dX12_bitsOf_50 rfl (lv_at hl 0 rfl) ?_
      refine md_gI (k := 22) cx hw hin12c rfl (by decide) (List.mem_cons_of_mem _ mm_326) dX12_bitsOf_51 ?_
      refine lv_icmp_ge (tgt := 90) cx.1 cx.2.1 dX12_bitsOf_54 (by decide) (fun c54 => ?_) (fun c54 => ?_)
      · have h := md_ip c54 h
        obtain rfl := Option.some.inj h
        exact K _ _ _ hw (lv_sub hl [3] rfl)
      · have h := md_in c54 h
        refine lv_iload cx.1 cx.2.1 dX12_bitsOf_57 (lv_at hl 3 rfl) ?_
        refine lv_aload_n cx.1 cx.2.1 dX12_bitsOf_59 rfl (lv_at hl 0 rfl) ?_
        refine lv_iload cx.1 cx.2.1 dX12_bitsOf_60 (lv_at hl 4 rfl) ?_
        refine lv_lload_n cx.1 cx.2.1 dX12_bitsOf_62 rfl (lv_at hl 1 rfl) ?_
        refine lv_iload_n cx.1 cx.2.1 dX12_bitsOf_63 rfl (lv_at hl 2 rfl) ?_
        obtain ⟨p3, e_p3, h⟩ := md_ob h
        refine hp_callVi (As := [.int l5, .long l1, .int l3]) (rest := [.int l4]) cx hw (km_X12_hasLimit l D cA E _ ad hj hE n σ l5 l1 l3 p3 e_p3) (cwV 3 cx.2.2.2.2.2.1 (md_giV mm_498 mm_499 mm_500 mm_5 mm_501) rfl rfl rfl hd_X12_hasLimit ⟨Nat.le_of_ble_eq_true rfl, Nat.le_of_ble_eq_true rfl⟩) md_at0 rfl rfl hl.1 rfl (Nat.le_of_ble_eq_true rfl) dX12_bitsOf_64 ⟨Nat.le_refl _, Nat.le_refl _⟩ (fun r u H locs hp hw => ?_)
        obtain ⟨rfl, rfl⟩ := hp
        refine lv_if_eq (tgt := 80) cx.1 cx.2.1 dX12_bitsOf_67 (by decide) (fun c67 => ?_) (fun c67 => ?_)
        · have h := md_ip c67 h
          refine lv_iconst (v := 0) cx.1 cx.2.1 dX12_bitsOf_80 (by decide) ?_
          exact J81 p3.2 l5 0 l4 _ _ _ h hw (lv_sub hl [0, 1, 2, 4] rfl)
        · have h := md_in c67 h
          refine lv_iconst (v := 1) cx.1 cx.2.1 dX12_bitsOf_70 (by decide) ?_
          refine lv_bipush (v := 8) cx.1 cx.2.1 dX12_bitsOf_71 (by decide) ?_
          refine lv_iload cx.1 cx.2.1 dX12_bitsOf_73 (lv_at hl 4 rfl) ?_
          refine lv_iadd cx.1 cx.2.1 dX12_bitsOf_75 ?_
          refine lv_ishl cx.1 cx.2.1 dX12_bitsOf_76 ?_
          refine lv_goto (tgt := 81) cx.1 cx.2.1 dX12_bitsOf_77 (by decide) ?_
          exact J81 p3.2 l5 (((1 : Int32) <<< (((8 : Int32) + l5) &&& 31))) l4 _ _ _ h hw (lv_sub hl [0, 1, 2, 4] rfl)
  obtain ⟨q4, e_q4, h⟩ := md_ob h
  refine L48 n q2.1 a1 a3 (q2.2.1) 0 q4 _ _ _ e_q4 hw (lv_sub hl [1, 2, 3, 4, 0] rfl) (fun H locs ls hw hl => ?_)
  refine lv_iload cx.1 cx.2.1 dX12_bitsOf_90 (lv_at hl 0 rfl) ?_
  exact hp_iret cx hw (md_ret h) dX12_bitsOf_92
set_option maxHeartbeats 4000000 in
set_option maxRecDepth 100000 in
theorem km_X12_may (l : Launch) (D : va_G) (cA : Nat → ClassId) (E : hp_N) (sz : Nat) (ad : Nat → Nat) (hj : md_inj ad) (hE : md_E E) (n : Nat) (σ0 : md_S) (a1 : Int32) (p : (Int32 × md_S)) (h : f_X12_may n σ0 a1 = some p) : Met l yX12_may (Cond.code yX12_may cX12_may 5 (some .int) :: v_MOD) ({ frames := 4, cells := 0, slots := 0, locals := 101 }) (hp_Pc D vwCl (hp_Tl cA) E sz (md_pic cA ad σ0) [.ref (ad 137), .int a1]) (hp_Qi D vwCl (hp_Tl cA) sz (md_pic cA ad σ0) (fun r u => r = p.1 ∧ u = md_pic cA ad p.2)) 0 0 (hp_A (md_pic cA ad σ0) sz) := by
  refine hp_ofW (cc := cX12_may) (maxL := 5) (ret := (some .int)) (by decide) rfl (Nat.le_of_ble_eq_true rfl) ?_
  intro pp ee ss mm bb mt cd ls cx hsz hw hl
  have hl : lv_has ls 5 [(0, .ref (ad 137)), (1, .int a1)] := hl
  refine lv_aload_n cx.1 cx.2.1 dX12_may_0 rfl (lv_at hl 0 rfl) ?_
  refine lv_iconst (v := 0) cx.1 cx.2.1 dX12_may_1 (by decide) ?_
  obtain ⟨σ1, e_σ1, h⟩ := md_ob h
  refine md_pI (k := 0) cx hw hin12c rfl (by decide) rfl (List.mem_cons_of_mem _ mm_0) rfl e_σ1 dX12_may_2 (fun H locs hw => ?_)
  refine lv_aload_n cx.1 cx.2.1 dX12_may_5 rfl (lv_at hl 0 rfl) ?_
  refine lv_iload_n cx.1 cx.2.1 dX12_may_6 rfl (lv_at hl 1 rfl) ?_
  obtain ⟨p2, e_p2, h⟩ := md_ob h
  refine hp_callVi (As := [.int a1]) (rest := []) cx hw (km_X12_isUnit l D cA E _ ad hj hE n σ1 a1 p2 e_p2) (cwV 1 cx.2.2.2.2.2.1 (md_giV mm_488 mm_489 mm_490 mm_5 mm_491) rfl rfl rfl hd_X12_isUnit ⟨Nat.le_of_ble_eq_true rfl, Nat.le_of_ble_eq_true rfl⟩) md_at0 rfl rfl hl.1 rfl (Nat.le_of_ble_eq_true rfl) dX12_may_7 ⟨Nat.le_refl _, Nat.le_refl _⟩ (fun r u H locs hp hw => ?_)
  obtain ⟨rfl, rfl⟩ := hp
  refine lv_if_eq (tgt := 20) cx.1 cx.2.1 dX12_may_10 (by decide) (fun c10 => ?_) (fun c10 => ?_)
  · have h := md_ip c10 h
    refine lv_iconst (v := (-1)) cx.1 cx.2.1 dX12_may_20 (by decide) ?_
    exact hp_iret cx hw (md_ret h) dX12_may_21
  · have h := md_in c10 h
    refine lv_aload_n cx.1 cx.2.1 dX12_may_13 rfl (lv_at hl 0 rfl) ?_
    refine md_gI (k := 81) cx hw hin12c rfl (by decide) (List.mem_cons_of_mem _ mm_493) dX12_may_14 ?_
    refine lv_if_ne (tgt := 22) cx.1 cx.2.1 dX12_may_17 (by decide) (fun c17 => ?_) (fun c17 => ?_)
    · have h := md_in c17 h
      refine lv_aload_n cx.1 cx.2.1 dX12_may_22 rfl (lv_at hl 0 rfl) ?_
      refine lv_iconst (v := 0) cx.1 cx.2.1 dX12_may_23 (by decide) ?_
      obtain ⟨σ3, e_σ3, h⟩ := md_ob h
      refine md_pI (k := 84) cx hw hin12c rfl (by decide) rfl (List.mem_cons_of_mem _ mm_504) rfl e_σ3 dX12_may_24 (fun H locs hw => ?_)
      refine lv_aload_n cx.1 cx.2.1 dX12_may_27 rfl (lv_at hl 0 rfl) ?_
      refine lv_aload_n cx.1 cx.2.1 dX12_may_28 rfl (lv_at hl 0 rfl) ?_
      refine lv_aload_n cx.1 cx.2.1 dX12_may_29 rfl (lv_at hl 0 rfl) ?_
      refine md_gJ (k := 82) cx hw hin12c rfl (by decide) (List.mem_cons_of_mem _ mm_492) dX12_may_30 ?_
      refine lv_sipush (v := 264) cx.1 cx.2.1 dX12_may_33 (by decide) ?_
      obtain ⟨p4, e_p4, h⟩ := md_ob h
      refine hp_callVi (As := [.long (mJ σ3 82), .int 264]) (rest := [.ref (ad 137)]) cx hw (km_X12_bitsOf l D cA E _ ad hj hE n σ3 ((mJ σ3 82)) (264 : Int32) p4 e_p4) (cwV 2 cx.2.2.2.2.2.1 (md_giV mm_513 mm_514 mm_515 mm_5 mm_516) rfl rfl rfl hd_X12_bitsOf ⟨Nat.le_of_ble_eq_true rfl, Nat.le_of_ble_eq_true rfl⟩) md_at0 rfl rfl hl.1 rfl (Nat.le_of_ble_eq_true rfl) dX12_may_36 ⟨Nat.le_refl _, Nat.le_refl _⟩ (fun r u H locs hp hw => ?_)
      obtain ⟨rfl, rfl⟩ := hp
      obtain ⟨σ5, e_σ5, h⟩ := md_ob h
      refine md_pI (k := 85) cx hw hin12c rfl (by decide) rfl (List.mem_cons_of_mem _ mm_502) rfl e_σ5 dX12_may_39 (fun H locs hw => ?_)
      refine lv_iconst (v := 0) cx.1 cx.2.1 dX12_may_42 (by decide) ?_
      refine lv_istore_n (lv' := [(2, .int 0), (0, .ref (ad 137)), (1, .int a1)]) cx.1 cx.2.1 dX12_may_43 rfl hl (by decide) rfl (fun ls hl => ?_)
      have L44 : ∀ (j : Nat) (σ : md_S) (l1 : Int32) (l2 : Int32) (q : (md_S × Int32)) (H : Heap) (locs : List Loc) (ls : Array Slot), f_X12_may_L44 n l1 j σ l2 = some q → hp_w D vwCl (hp_Tl cA) E (hp_A (md_pic cA ad σ0) sz) ss H locs (md_pic cA ad σ) → lv_has ls 5 [(0, .ref (ad 137)), (1, .int l1), (2, .int l2)] → (∀ (H : Heap) (locs : List Loc) (ls : Array Slot), hp_w D vwCl (hp_Tl cA) E (hp_A (md_pic cA ad σ0) sz) ss H locs (md_pic cA ad q.1) → lv_has ls 5 [(0, .ref (ad 137)), (1, .int l1)] → W pp l ee ({ frames := 4, cells := 0, slots := 0, locals := 101 }) ss mm [.ref (ad 137), .int a1].toArray bb mt cd H locs 0 0 (MQ bb (hp_Qi D vwCl (hp_Tl cA) sz (md_pic cA ad σ0) (fun r u => r = p.1 ∧ u = md_pic cA ad p.2)) [.ref (ad 137), .int a1].toArray ss 0 0 (hp_A (md_pic cA ad σ0) sz)) (F0 mm 65 ls [])) → W pp l ee ({ frames := 4, cells := 0, slots := 0, locals := 101 }) ss mm [.ref (ad 137), .int a1].toArray bb mt cd H locs 0 0 (MQ bb (hp_Qi D vwCl (hp_Tl cA) sz (md_pic cA ad σ0) (fun r u => r = p.1 ∧ u = md_pic cA ad p.2)) [.ref (ad 137), .int a1].toArray ss 0 0 (hp_A (md_pic cA ad σ0) sz)) (F0 mm 44 ls []) := by
        intro j
        induction j with
        | zero => intro σ l1 l2 q H locs ls h; exact nomatch h
        | succ j ih =>
          intro σ l1 l2 q H locs ls h hw hl K
          refine lv_iload_n cx.1 cx.2.1 dX12_may_44 rfl (lv_at hl 2 rfl) ?_
          refine lv_aload_n cx.1 cx.2.1 dX12_may_45 rfl (lv_at hl 0 rfl) ?_
          refine md_gI (k := 35) cx hw hin12c rfl (by decide) (List.mem_cons_of_mem _ mm_143) dX12_may_46 ?_
          refine lv_icmp_ge (tgt := 65) cx.1 cx.2.1 dX12_may_49 (by decide) (fun c49 => ?_) (fun c49 => ?_)
          · have h := md_ip c49 h
            obtain rfl := Option.some.inj h
            exact K _ _ _ hw (lv_sub hl [0, 1] rfl)
          · have h := md_in c49 h
            refine lv_aload_n cx.1 cx.2.1 dX12_may_52 rfl (lv_at hl 0 rfl) ?_
            refine md_gR (k := 83) cx hw hin12c (by decide) (by decide) (List.mem_cons_of_mem _ mm_503) dX12_may_53 ?_
            refine lv_iload_n cx.1 cx.2.1 dX12_may_56 rfl (lv_at hl 2 rfl) ?_
            refine lv_iconst (v := 0) cx.1 cx.2.1 dX12_may_57 (by decide) ?_
            obtain ⟨σ6, e_σ6, h⟩ := md_ob h
            refine md_sI (k := 83) hj cx hw (by decide) rfl rfl rfl e_σ6 dX12_may_58 (fun H locs hw => ?_)
            refine lv_iinc (v := (l2 + 1)) (lv' := [(2, .int (l2 + 1)), (0, .ref (ad 137)), (1, .int l1)]) cx.1 cx.2.1 dX12_may_59 hl (k := 2) rfl rfl (by decide) rfl (fun ls hl => ?_)
            refine lv_goto (tgt := 44) cx.1 cx.2.1 dX12_may_62 (by decide) ?_
            exact ih σ6 l1 ((l2 + 1)) q _ _ _ h hw (lv_sub hl [1, 2, 0] rfl) K
      obtain ⟨q7, e_q7, h⟩ := md_ob h
      refine L44 n σ5 a1 0 q7 _ _ _ e_q7 hw (lv_sub hl [1, 2, 0] rfl) (fun H locs ls hw hl => ?_)
      refine lv_iconst (v := 0) cx.1 cx.2.1 dX12_may_65 (by decide) ?_
      refine lv_istore_n (lv' := [(2, .int 0), (0, .ref (ad 137)), (1, .int a1)]) cx.1 cx.2.1 dX12_may_66 rfl hl (by decide) rfl (fun ls hl => ?_)
      have L67 : ∀ (j : Nat) (σ : md_S) (l1 : Int32) (l2 : Int32) (q : (md_S × Int32)) (H : Heap) (locs : List Loc) (ls : Array Slot), f_X12_may_L67 n l1 j σ l2 = some q → hp_w D vwCl (hp_Tl cA) E (hp_A (md_pic cA ad σ0) sz) ss H locs (md_pic cA ad σ) → lv_has ls 5 [(0, .ref (ad 137)), (1, .int l1), (2, .int l2)] → (∀ (H : Heap) (locs : List Loc) (ls : Array Slot), hp_w D vwCl (hp_Tl cA) E (hp_A (md_pic cA ad σ0) sz) ss H locs (md_pic cA ad q.1) → lv_has ls 5 [(0, .ref (ad 137)), (1, .int l1)] → W pp l ee ({ frames := 4, cells := 0, slots := 0, locals := 101 }) ss mm [.ref (ad 137), .int a1].toArray bb mt cd H locs 0 0 (MQ bb (hp_Qi D vwCl (hp_Tl cA) sz (md_pic cA ad σ0) (fun r u => r = p.1 ∧ u = md_pic cA ad p.2)) [.ref (ad 137), .int a1].toArray ss 0 0 (hp_A (md_pic cA ad σ0) sz)) (F0 mm 110 ls [])) → W pp l ee ({ frames := 4, cells := 0, slots := 0, locals := 101 }) ss mm [.ref (ad 137), .int a1].toArray bb mt cd H locs 0 0 (MQ bb (hp_Qi D vwCl (hp_Tl cA) sz (md_pic cA ad σ0) (fun r u => r = p.1 ∧ u = md_pic cA ad p.2)) [.ref (ad 137), .int a1].toArray ss 0 0 (hp_A (md_pic cA ad σ0) sz)) (F0 mm 67 ls []) := by
        intro j
        induction j with
        | zero => intro σ l1 l2 q H locs ls h; exact nomatch h
        | succ j ih =>
          intro σ l1 l2 q H locs ls h hw hl K
          have J104 : ∀ (σ : md_S) (l2 : Int32) (H : Heap) (locs : List Loc) (ls : Array Slot), f_X12_may_J104 n l1 (f_X12_may_L67 n l1 j) σ l2 = some q → hp_w D vwCl (hp_Tl cA) E (hp_A (md_pic cA ad σ0) sz) ss H locs (md_pic cA ad σ) → lv_has ls 5 [(0, .ref (ad 137)), (1, .int l1), (2, .int l2)] → W pp l ee ({ frames := 4, cells := 0, slots := 0, locals := 101 }) ss mm [.ref (ad 137), .int a1].toArray bb mt cd H locs 0 0 (MQ bb (hp_Qi D vwCl (hp_Tl cA) sz (md_pic cA ad σ0) (fun r u => r = p.1 ∧ u = md_pic cA ad p.2)) [.ref (ad 137), .int a1].toArray ss 0 0 (hp_A (md_pic cA ad σ0) sz)) (F0 mm 104 ls []) := by
            intro σ l2 H locs ls h hw hl
            refine lv_iinc (v := (l2 + 1)) (lv' := [(2, .int (l2 + 1)), (0, .ref (ad 137)), (1, .int l1)]) cx.1 cx.2.1 dX12_may_104 hl (k := 2) rfl rfl (by decide) rfl (fun ls hl => ?_)
            refine lv_goto (tgt := 67) cx.1 cx.2.1 dX12_may_107 (by decide) ?_
            exact ih σ l1 ((l2 + 1)) q _ _ _ h hw (lv_sub hl [1, 2, 0] rfl) K
          refine lv_iload_n cx.1 cx.2.1 dX12_may_67 rfl (lv_at hl 2 rfl) ?_
          refine lv_aload_n cx.1 cx.2.1 dX12_may_68 rfl (lv_at hl 0 rfl) ?_
          refine md_gI (k := 35) cx hw hin12c rfl (by decide) (List.mem_cons_of_mem _ mm_143) dX12_may_69 ?_
          refine lv_icmp_ge (tgt := 110) cx.1 cx.2.1 dX12_may_72 (by decide) (fun c72 => ?_) (fun c72 => ?_)
          · have h := md_ip c72 h
            obtain rfl := Option.some.inj h
            exact K _ _ _ hw (lv_sub hl [0, 1] rfl)
          · have h := md_in c72 h
            refine lv_aload_n cx.1 cx.2.1 dX12_may_75 rfl (lv_at hl 0 rfl) ?_
            refine md_gR (k := 36) cx hw hin12c (by decide) (by decide) (List.mem_cons_of_mem _ mm_139) dX12_may_76 ?_
            refine lv_iload_n cx.1 cx.2.1 dX12_may_79 rfl (lv_at hl 2 rfl) ?_
            obtain ⟨v8, e_v8, h⟩ := md_ob h
            refine md_lI (k := 36) hj cx hw (by decide) rfl rfl rfl e_v8 dX12_may_80 ?_
            refine lv_if_ne (tgt := 104) cx.1 cx.2.1 dX12_may_81 (by decide) (fun c81 => ?_) (fun c81 => ?_)
            · have h := md_in c81 h
              exact J104 σ l2 _ _ _ h hw (lv_sub hl [0, 1, 2] rfl)
            · have h := md_ip c81 h
              refine lv_aload_n cx.1 cx.2.1 dX12_may_84 rfl (lv_at hl 0 rfl) ?_
              refine md_gR (k := 39) cx hw hin12c (by decide) (by decide) (List.mem_cons_of_mem _ mm_140) dX12_may_85 ?_
              refine lv_iload_n cx.1 cx.2.1 dX12_may_88 rfl (lv_at hl 2 rfl) ?_
              obtain ⟨v9, e_v9, h⟩ := md_ob h
              refine md_lI (k := 39) hj cx hw (by decide) rfl rfl rfl e_v9 dX12_may_89 ?_
              refine lv_if_ne (tgt := 104) cx.1 cx.2.1 dX12_may_90 (by decide) (fun c90 => ?_) (fun c90 => ?_)
              · have h := md_in c90 h
                exact J104 σ l2 _ _ _ h hw (lv_sub hl [0, 1, 2] rfl)
              · have h := md_ip c90 h
                refine lv_aload_n cx.1 cx.2.1 dX12_may_93 rfl (lv_at hl 0 rfl) ?_
                refine lv_iload_n cx.1 cx.2.1 dX12_may_94 rfl (lv_at hl 2 rfl) ?_
                refine lv_aload_n cx.1 cx.2.1 dX12_may_95 rfl (lv_at hl 0 rfl) ?_
                refine lv_iload_n cx.1 cx.2.1 dX12_may_96 rfl (lv_at hl 2 rfl) ?_
                obtain ⟨p10, e_p10, h⟩ := md_ob h
                refine hp_callVi (As := [.int l2]) (rest := [.int l2, .ref (ad 137)]) cx hw (km_X12_own l D cA E _ ad hj hE n σ l2 p10 e_p10) (cwV 1 cx.2.2.2.2.2.1 (md_giV mm_505 mm_506 mm_507 mm_5 mm_508) rfl rfl rfl hd_X12_own ⟨Nat.le_of_ble_eq_true rfl, Nat.le_of_ble_eq_true rfl⟩) md_at0 rfl rfl hl.1 rfl (Nat.le_of_ble_eq_true rfl) dX12_may_97 ⟨Nat.le_refl _, Nat.le_refl _⟩ (fun r u H locs hp hw => ?_)
                obtain ⟨rfl, rfl⟩ := hp
                obtain ⟨p11, e_p11, h⟩ := md_ob h
                refine hp_callVi (As := [.int l2, .int p10.1]) (rest := []) cx hw (km_X12_adds l D cA E _ ad hj hE n p10.2 l2 (p10.1) p11 e_p11) (cwV 2 cx.2.2.2.2.2.1 (md_giV mm_509 mm_510 mm_511 mm_5 mm_512) rfl rfl rfl hd_X12_adds ⟨Nat.le_of_ble_eq_true rfl, Nat.le_of_ble_eq_true rfl⟩) md_at0 rfl rfl hl.1 rfl (Nat.le_of_ble_eq_true rfl) dX12_may_100 ⟨Nat.le_refl _, Nat.le_refl _⟩ (fun r u H locs hp hw => ?_)
                obtain ⟨rfl, rfl⟩ := hp
                refine lv_istore_n (lv' := [(3, .int p11.1), (0, .ref (ad 137)), (1, .int l1), (2, .int l2)]) cx.1 cx.2.1 dX12_may_103 rfl hl (by decide) rfl (fun ls hl => ?_)
                exact J104 p11.2 l2 _ _ _ h hw (lv_sub hl [1, 2, 3] rfl)
      obtain ⟨q12, e_q12, h⟩ := md_ob h
      refine L67 n q7.1 a1 0 q12 _ _ _ e_q12 hw (lv_sub hl [1, 2, 0] rfl) (fun H locs ls hw hl => ?_)
      refine lv_iconst (v := 1) cx.1 cx.2.1 dX12_may_110 (by decide) ?_
      refine lv_istore_n (lv' := [(2, .int 1), (0, .ref (ad 137)), (1, .int a1)]) cx.1 cx.2.1 dX12_may_111 rfl hl (by decide) rfl (fun ls hl => ?_)
      have L112 : ∀ (j : Nat) (σ : md_S) (l1 : Int32) (l2 : Int32) (q : (md_S × Int32)) (H : Heap) (locs : List Loc) (ls : Array Slot), f_X12_may_L112 n l1 j σ l2 = some q → hp_w D vwCl (hp_Tl cA) E (hp_A (md_pic cA ad σ0) sz) ss H locs (md_pic cA ad σ) → lv_has ls 5 [(0, .ref (ad 137)), (1, .int l1), (2, .int l2)] → (∀ (H : Heap) (locs : List Loc) (ls : Array Slot), hp_w D vwCl (hp_Tl cA) E (hp_A (md_pic cA ad σ0) sz) ss H locs (md_pic cA ad q.1) → lv_has ls 5 [(0, .ref (ad 137)), (1, .int l1)] → W pp l ee ({ frames := 4, cells := 0, slots := 0, locals := 101 }) ss mm [.ref (ad 137), .int a1].toArray bb mt cd H locs 0 0 (MQ bb (hp_Qi D vwCl (hp_Tl cA) sz (md_pic cA ad σ0) (fun r u => r = p.1 ∧ u = md_pic cA ad p.2)) [.ref (ad 137), .int a1].toArray ss 0 0 (hp_A (md_pic cA ad σ0) sz)) (F0 mm 198 ls [])) → W pp l ee ({ frames := 4, cells := 0, slots := 0, locals := 101 }) ss mm [.ref (ad 137), .int a1].toArray bb mt cd H locs 0 0 (MQ bb (hp_Qi D vwCl (hp_Tl cA) sz (md_pic cA ad σ0) (fun r u => r = p.1 ∧ u = md_pic cA ad p.2)) [.ref (ad 137), .int a1].toArray ss 0 0 (hp_A (md_pic cA ad σ0) sz)) (F0 mm 112 ls []) := by
        intro j
        induction j with
        | zero => intro σ l1 l2 q H locs ls h; exact nomatch h
        | succ j ih =>
          intro σ l1 l2 q H locs ls h hw hl K
          refine lv_iload_n cx.1 cx.2.1 dX12_may_112 rfl (lv_at hl 2 rfl) ?_
          refine lv_if_eq (tgt := 198) cx.1 cx.2.1 dX12_may_113 (by decide) (fun c113 => ?_) (fun c113 => ?_)
          · have h := md_ip c113 h
            obtain rfl := Option.some.inj h
            exact K _ _ _ hw (lv_sub hl [0, 1] rfl)
          · have h := md_in c113 h
            refine lv_iconst (v := 0) cx.1 cx.2.1 dX12_may_116 (by decide) ?_
            refine lv_istore_n (lv' := [(2, .int 0), (0, .ref (ad 137)), (1, .int l1)]) cx.1 cx.2.1 dX12_may_117 rfl hl (by decide) rfl (fun ls hl => ?_)
            refine lv_iconst (v := 0) cx.1 cx.2.1 dX12_may_118 (by decide) ?_
            refine lv_istore_n (lv' := [(3, .int 0), (2, .int 0), (0, .ref (ad 137)), (1, .int l1)]) cx.1 cx.2.1 dX12_may_119 rfl hl (by decide) rfl (fun ls hl => ?_)
            have L120 : ∀ (j : Nat) (σ : md_S) (l1 : Int32) (l2 : Int32) (l3 : Int32) (q : (md_S × Int32 × Int32)) (H : Heap) (locs : List Loc) (ls : Array Slot), f_X12_may_L120 n l1 j σ l2 l3 = some q → hp_w D vwCl (hp_Tl cA) E (hp_A (md_pic cA ad σ0) sz) ss H locs (md_pic cA ad σ) → lv_has ls 5 [(0, .ref (ad 137)), (1, .int l1), (2, .int l2), (3, .int l3)] → (∀ (H : Heap) (locs : List Loc) (ls : Array Slot), hp_w D vwCl (hp_Tl cA) E (hp_A (md_pic cA ad σ0) sz) ss H locs (md_pic cA ad q.1) → lv_has ls 5 [(0, .ref (ad 137)), (1, .int l1), (2, .int q.2.1)] → W pp l ee ({ frames := 4, cells := 0, slots := 0, locals := 101 }) ss mm [.ref (ad 137), .int a1].toArray bb mt cd H locs 0 0 (MQ bb (hp_Qi D vwCl (hp_Tl cA) sz (md_pic cA ad σ0) (fun r u => r = p.1 ∧ u = md_pic cA ad p.2)) [.ref (ad 137), .int a1].toArray ss 0 0 (hp_A (md_pic cA ad σ0) sz)) (F0 mm 195 ls [])) → W pp l ee ({ frames := 4, cells := 0, slots := 0, locals := 101 }) ss mm [.ref (ad 137), .int a1].toArray bb mt cd H locs 0 0 (MQ bb (hp_Qi D vwCl (hp_Tl cA) sz (md_pic cA ad σ0) (fun r u => r = p.1 ∧ u = md_pic cA ad p.2)) [.ref (ad 137), .int a1].toArray ss 0 0 (hp_A (md_pic cA ad σ0) sz)) (F0 mm 120 ls []) := by
              intro j
              induction j with
              | zero => intro σ l1 l2 l3 q H locs ls h; exact nomatch h
              | succ j ih =>
                intro σ l1 l2 l3 q H locs ls h hw hl K
                refine lv_iload_n cx.1 cx.2.1 dX12_may_120 rfl (lv_at hl 3 rfl) ?_
                refine lv_aload_n cx.1 cx.2.1 dX12_may_121 rfl (lv_at hl 0 rfl) ?_
                refine md_gI (k := 65) cx hw hin12c rfl (by decide) (List.mem_cons_of_mem _ mm_127) dX12_may_122 ?_
                refine lv_icmp_ge (tgt := 195) cx.1 cx.2.1 dX12_may_125 (by decide) (fun c125 => ?_) (fun c125 => ?_)
                · have h := md_ip c125 h
                  obtain rfl := Option.some.inj h
                  exact K _ _ _ hw (lv_sub hl [0, 1, 2] rfl)
                · have h := md_in c125 h
                  refine lv_iconst (v := 1) cx.1 cx.2.1 dX12_may_128 (by decide) ?_
                  refine lv_istore (lv' := [(4, .int 1), (0, .ref (ad 137)), (1, .int l1), (2, .int l2), (3, .int l3)]) cx.1 cx.2.1 dX12_may_129 hl (by decide) rfl (fun ls hl => ?_)
                  have L131 : ∀ (j : Nat) (σ : md_S) (l1 : Int32) (l3 : Int32) (l2 : Int32) (l4 : Int32) (q : (md_S × Int32 × Int32)) (H : Heap) (locs : List Loc) (ls : Array Slot), f_X12_may_L131 n l1 l3 j σ l2 l4 = some q → hp_w D vwCl (hp_Tl cA) E (hp_A (md_pic cA ad σ0) sz) ss H locs (md_pic cA ad σ) → lv_has ls 5 [(0, .ref (ad 137)), (1, .int l1), (2, .int l2), (3, .int l3), (4, .int l4)] → (∀ (H : Heap) (locs : List Loc) (ls : Array Slot), hp_w D vwCl (hp_Tl cA) E (hp_A (md_pic cA ad σ0) sz) ss H locs (md_pic cA ad q.1) → lv_has ls 5 [(0, .ref (ad 137)), (1, .int l1), (2, .int q.2.1), (3, .int l3)] → W pp l ee ({ frames := 4, cells := 0, slots := 0, locals := 101 }) ss mm [.ref (ad 137), .int a1].toArray bb mt cd H locs 0 0 (MQ bb (hp_Qi D vwCl (hp_Tl cA) sz (md_pic cA ad σ0) (fun r u => r = p.1 ∧ u = md_pic cA ad p.2)) [.ref (ad 137), .int a1].toArray ss 0 0 (hp_A (md_pic cA ad σ0) sz)) (F0 mm 189 ls [])) → W pp l ee ({ frames := 4, cells := 0, slots := 0, locals := 101 }) ss mm [.ref (ad 137), .int a1].toArray bb mt cd H locs 0 0 (MQ bb (hp_Qi D vwCl (hp_Tl cA) sz (md_pic cA ad σ0) (fun r u => r = p.1 ∧ u = md_pic cA ad p.2)) [.ref (ad 137), .int a1].toArray ss 0 0 (hp_A (md_pic cA ad σ0) sz)) (F0 mm 131 ls []) := by
                    intro j
                    induction j with
                    | zero => intro σ l1 l3 l2 l4 q H locs ls h; exact nomatch h
                    | succ j ih =>
                      intro σ l1 l3 l2 l4 q H locs ls h hw hl K
                      have J183 : ∀ (σ : md_S) (l2 : Int32) (l4 : Int32) (H : Heap) (locs : List Loc) (ls : Array Slot), f_X12_may_J183 n l1 l3 (f_X12_may_L131 n l1 l3 j) σ l2 l4 = some q → hp_w D vwCl (hp_Tl cA) E (hp_A (md_pic cA ad σ0) sz) ss H locs (md_pic cA ad σ) → lv_has ls 5 [(0, .ref (ad 137)), (1, .int l1), (2, .int l2), (3, .int l3), (4, .int l4)] → W pp l ee ({ frames := 4, cells := 0, slots := 0, locals := 101 }) ss mm [.ref (ad 137), .int a1].toArray bb mt cd H locs 0 0 (MQ bb (hp_Qi D vwCl (hp_Tl cA) sz (md_pic cA ad σ0) (fun r u => r = p.1 ∧ u = md_pic cA ad p.2)) [.ref (ad 137), .int a1].toArray ss 0 0 (hp_A (md_pic cA ad σ0) sz)) (F0 mm 183 ls []) := by
                        intro σ l2 l4 H locs ls h hw hl
                        refine lv_iinc (v := (l4 + 1)) (lv' := [(4, .int (l4 + 1)), (0, .ref (ad 137)), (1, .int l1), (2, .int l2), (3, .int l3)]) cx.1 cx.2.1 dX12_may_183 hl (k := 4) rfl rfl (by decide) rfl (fun ls hl => ?_)
                        refine lv_goto (tgt := 131) cx.1 cx.2.1 dX12_may_186 (by decide) ?_
                        exact ih σ l1 l3 l2 ((l4 + 1)) q _ _ _ h hw (lv_sub hl [1, 2, 3, 4, 0] rfl) K
                      have J182 : ∀ (σ : md_S) (l4 : Int32) (t0 : Int32) (H : Heap) (locs : List Loc) (ls : Array Slot), f_X12_may_J182 n l1 l3 (f_X12_may_L131 n l1 l3 j) σ l4 t0 = some q → hp_w D vwCl (hp_Tl cA) E (hp_A (md_pic cA ad σ0) sz) ss H locs (md_pic cA ad σ) → lv_has ls 5 [(0, .ref (ad 137)), (1, .int l1), (3, .int l3), (4, .int l4)] → W pp l ee ({ frames := 4, cells := 0, slots := 0, locals := 101 }) ss mm [.ref (ad 137), .int a1].toArray bb mt cd H locs 0 0 (MQ bb (hp_Qi D vwCl (hp_Tl cA) sz (md_pic cA ad σ0) (fun r u => r = p.1 ∧ u = md_pic cA ad p.2)) [.ref (ad 137), .int a1].toArray ss 0 0 (hp_A (md_pic cA ad σ0) sz)) (F0 mm 182 ls [.int t0]) := by
                        intro σ l4 t0 H locs ls h hw hl
                        refine lv_istore_n (lv' := [(2, .int t0), (0, .ref (ad 137)), (1, .int l1), (3, .int l3), (4, .int l4)]) cx.1 cx.2.1 dX12_may_182 rfl hl (by decide) rfl (fun ls hl => ?_)
                        exact J183 σ t0 l4 _ _ _ h hw (lv_sub hl [1, 2, 0, 3, 4] rfl)
                      have J177 : ∀ (σ : md_S) (l4 : Int32) (H : Heap) (locs : List Loc) (ls : Array Slot), f_X12_may_J177 n l1 l3 (f_X12_may_L131 n l1 l3 j) σ l4 = some q → hp_w D vwCl (hp_Tl cA) E (hp_A (md_pic cA ad σ0) sz) ss H locs (md_pic cA ad σ) → lv_has ls 5 [(0, .ref (ad 137)), (1, .int l1), (3, .int l3), (4, .int l4)] → W pp l ee ({ frames := 4, cells := 0, slots := 0, locals := 101 }) ss mm [.ref (ad 137), .int a1].toArray bb mt cd H locs 0 0 (MQ bb (hp_Qi D vwCl (hp_Tl cA) sz (md_pic cA ad σ0) (fun r u => r = p.1 ∧ u = md_pic cA ad p.2)) [.ref (ad 137), .int a1].toArray ss 0 0 (hp_A (md_pic cA ad σ0) sz)) (F0 mm 177 ls []) := by
                        intro σ l4 H locs ls h hw hl
                        refine lv_iconst (v := 1) cx.1 cx.2.1 dX12_may_177 (by decide) ?_
                        refine lv_goto (tgt := 182) cx.1 cx.2.1 dX12_may_178 (by decide) ?_
                        exact J182 σ l4 1 _ _ _ h hw (lv_sub hl [0, 1, 2, 3] rfl)
                      have J167 : ∀ (σ : md_S) (l2 : Int32) (l4 : Int32) (t0 : Int32) (t1 : Int32) (H : Heap) (locs : List Loc) (ls : Array Slot), f_X12_may_J167 n l1 l3 (f_X12_may_L131 n l1 l3 j) σ l2 l4 t0 t1 = some q → hp_w D vwCl (hp_Tl cA) E (hp_A (md_pic cA ad σ0) sz) ss H locs (md_pic cA ad σ) → lv_has ls 5 [(0, .ref (ad 137)), (1, .int l1), (2, .int l2), (3, .int l3), (4, .int l4)] → W pp l ee ({ frames := 4, cells := 0, slots := 0, locals := 101 }) ss mm [.ref (ad 137), .int a1].toArray bb mt cd H locs 0 0 (MQ bb (hp_Qi D vwCl (hp_Tl cA) sz (md_pic cA ad σ0) (fun r u => r = p.1 ∧ u = md_pic cA ad p.2)) [.ref (ad 137), .int a1].toArray ss 0 0 (hp_A (md_pic cA ad σ0) sz)) (F0 mm 167 ls [.int t0, .int t1, .ref (ad 137)]) := by
                        intro σ l2 l4 t0 t1 H locs ls h hw hl
                        obtain ⟨p13, e_p13, h⟩ := md_ob h
                        refine hp_callVi (As := [.int t1, .int t0]) (rest := []) cx hw (km_X12_goesOn l D cA E _ ad hj hE n σ t1 t0 p13 e_p13) (cwV 2 cx.2.2.2.2.2.1 (md_giV mm_517 mm_518 mm_519 mm_5 mm_520) rfl rfl rfl hd_X12_goesOn ⟨Nat.le_of_ble_eq_true rfl, Nat.le_of_ble_eq_true rfl⟩) md_at0 rfl rfl hl.1 rfl (Nat.le_of_ble_eq_true rfl) dX12_may_167 ⟨Nat.le_refl _, Nat.le_refl _⟩ (fun r u H locs hp hw => ?_)
                        obtain ⟨rfl, rfl⟩ := hp
                        refine lv_if_ne (tgt := 177) cx.1 cx.2.1 dX12_may_170 (by decide) (fun c170 => ?_) (fun c170 => ?_)
                        · have h := md_in c170 h
                          exact J177 p13.2 l4 _ _ _ h hw (lv_sub hl [0, 1, 3, 4] rfl)
                        · have h := md_ip c170 h
                          refine lv_iload_n cx.1 cx.2.1 dX12_may_173 rfl (lv_at hl 2 rfl) ?_
                          refine lv_if_eq (tgt := 181) cx.1 cx.2.1 dX12_may_174 (by decide) (fun c174 => ?_) (fun c174 => ?_)
                          · have h := md_ip c174 h
                            refine lv_iconst (v := 0) cx.1 cx.2.1 dX12_may_181 (by decide) ?_
                            exact J182 p13.2 l4 0 _ _ _ h hw (lv_sub hl [0, 1, 3, 4] rfl)
                          · have h := md_in c174 h
                            exact J177 p13.2 l4 _ _ _ h hw (lv_sub hl [0, 1, 3, 4] rfl)
                      refine lv_iload cx.1 cx.2.1 dX12_may_131 (lv_at hl 4 rfl) ?_
                      refine lv_iconst (v := 3) cx.1 cx.2.1 dX12_may_133 (by decide) ?_
                      refine lv_icmp_ge (tgt := 189) cx.1 cx.2.1 dX12_may_134 (by decide) (fun c134 => ?_) (fun c134 => ?_)
                      · have h := md_ip c134 h
                        obtain rfl := Option.some.inj h
                        exact K _ _ _ hw (lv_sub hl [0, 1, 2, 3] rfl)
                      · have h := md_in c134 h
                        refine lv_aload_n cx.1 cx.2.1 dX12_may_137 rfl (lv_at hl 0 rfl) ?_
                        refine md_gR (k := 83) cx hw hin12c (by decide) (by decide) (List.mem_cons_of_mem _ mm_503) dX12_may_138 ?_
                        refine lv_aload_n cx.1 cx.2.1 dX12_may_141 rfl (lv_at hl 0 rfl) ?_
                        refine md_gR (k := 67) cx hw hin12c (by decide) (by decide) (List.mem_cons_of_mem _ mm_129) dX12_may_142 ?_
                        refine lv_iload_n cx.1 cx.2.1 dX12_may_145 rfl (lv_at hl 3 rfl) ?_
                        obtain ⟨v14, e_v14, h⟩ := md_ob h
                        refine md_lI (k := 67) hj cx hw (by decide) rfl rfl rfl e_v14 dX12_may_146 ?_
                        obtain ⟨v15, e_v15, h⟩ := md_ob h
                        refine md_lI (k := 83) hj cx hw (by decide) rfl rfl rfl e_v15 dX12_may_147 ?_
                        refine lv_iload cx.1 cx.2.1 dX12_may_148 (lv_at hl 4 rfl) ?_
                        refine lv_iand cx.1 cx.2.1 dX12_may_150 ?_
                        refine lv_if_eq (tgt := 183) cx.1 cx.2.1 dX12_may_151 (by decide) (fun c151 => ?_) (fun c151 => ?_)
                        · have h := md_ip c151 h
                          exact J183 σ l2 l4 _ _ _ h hw (lv_sub hl [0, 1, 2, 3, 4] rfl)
                        · have h := md_in c151 h
                          refine lv_aload_n cx.1 cx.2.1 dX12_may_154 rfl (lv_at hl 0 rfl) ?_
                          refine lv_iload_n cx.1 cx.2.1 dX12_may_155 rfl (lv_at hl 3 rfl) ?_
                          refine lv_iload cx.1 cx.2.1 dX12_may_156 (lv_at hl 4 rfl) ?_
                          refine lv_iconst (v := 1) cx.1 cx.2.1 dX12_may_158 (by decide) ?_
                          refine lv_icmp_ne (tgt := 166) cx.1 cx.2.1 dX12_may_159 (by decide) (fun c159 => ?_) (fun c159 => ?_)
                          · have h := md_in c159 h
                            refine lv_iconst (v := 0) cx.1 cx.2.1 dX12_may_166 (by decide) ?_
                            exact J167 σ l2 l4 0 l3 _ _ _ h hw (lv_sub hl [0, 1, 2, 3, 4] rfl)
                          · have h := md_ip c159 h
                            refine lv_iconst (v := 1) cx.1 cx.2.1 dX12_may_162 (by decide) ?_
                            refine lv_goto (tgt := 167) cx.1 cx.2.1 dX12_may_163 (by decide) ?_
                            exact J167 σ l2 l4 1 l3 _ _ _ h hw (lv_sub hl [0, 1, 2, 3, 4] rfl)
                  obtain ⟨q16, e_q16, h⟩ := md_ob h
                  refine L131 n σ l1 l3 l2 1 q16 _ _ _ e_q16 hw (lv_sub hl [1, 2, 3, 4, 0] rfl) (fun H locs ls hw hl => ?_)
                  refine lv_iinc (v := (l3 + 1)) (lv' := [(3, .int (l3 + 1)), (0, .ref (ad 137)), (1, .int l1), (2, .int q16.2.1)]) cx.1 cx.2.1 dX12_may_189 hl (k := 3) rfl rfl (by decide) rfl (fun ls hl => ?_)
                  refine lv_goto (tgt := 120) cx.1 cx.2.1 dX12_may_192 (by decide) ?_
                  exact ih q16.1 l1 (q16.2.1) ((l3 + 1)) q _ _ _ h hw (lv_sub hl [1, 2, 3, 0] rfl) K
            obtain ⟨q17, e_q17, h⟩ := md_ob h
            refine L120 n σ l1 0 0 q17 _ _ _ e_q17 hw (lv_sub hl [2, 3, 1, 0] rfl) (fun H locs ls hw hl => ?_)
            refine lv_goto (tgt := 112) cx.1 cx.2.1 dX12_may_195 (by decide) ?_
            exact ih q17.1 l1 (q17.2.1) q _ _ _ h hw (lv_sub hl [0, 1, 2] rfl) K
      obtain ⟨q18, e_q18, h⟩ := md_ob h
      refine L112 n q12.1 a1 1 q18 _ _ _ e_q18 hw (lv_sub hl [1, 2, 0] rfl) (fun H locs ls hw hl => ?_)
      refine lv_aload_n cx.1 cx.2.1 dX12_may_198 rfl (lv_at hl 0 rfl) ?_
      refine md_gR (k := 83) cx hw hin12c (by decide) (by decide) (List.mem_cons_of_mem _ mm_503) dX12_may_199 ?_
      refine lv_iload_n cx.1 cx.2.1 dX12_may_202 rfl (lv_at hl 1 rfl) ?_
      obtain ⟨v19, e_v19, h⟩ := md_ob h
      refine md_lI (k := 83) hj cx hw (by decide) rfl rfl rfl e_v19 dX12_may_203 ?_
      exact hp_iret cx hw (md_ret h) dX12_may_204
    · have h := md_ip c17 h
      refine lv_iconst (v := (-1)) cx.1 cx.2.1 dX12_may_20 (by decide) ?_
      exact hp_iret cx hw (md_ret h) dX12_may_21
set_option maxHeartbeats 4000000 in
set_option maxRecDepth 100000 in
theorem km_X12_addProduct (l : Launch) (D : va_G) (cA : Nat → ClassId) (E : hp_N) (sz : Nat) (ad : Nat → Nat) (hj : md_inj ad) (hE : md_E E) (n : Nat) (σ0 : md_S) (a1 : Int32) (p : (Int32 × md_S)) (h : f_X12_addProduct n σ0 a1 = some p) : Met l yX12_addProduct (Cond.code yX12_addProduct cX12_addProduct 4 none :: v_MOD) ({ frames := 0, cells := 0, slots := 0, locals := 0 }) (hp_Pc D vwCl (hp_Tl cA) E sz (md_pic cA ad σ0) [.ref (ad 137), .int a1]) (hp_Qv D vwCl (hp_Tl cA) sz (md_pic cA ad σ0) (fun u => u = md_pic cA ad p.2)) 0 0 (hp_A (md_pic cA ad σ0) sz) := by
  refine hp_ofW (cc := cX12_addProduct) (maxL := 4) (ret := none) (by decide) rfl (Nat.le_of_ble_eq_true rfl) ?_
  intro pp ee ss mm bb mt cd ls cx hsz hw hl
  have hl : lv_has ls 4 [(0, .ref (ad 137)), (1, .int a1)] := hl
  refine lv_iconst (v := 0) cx.1 cx.2.1 dX12_addProduct_0 (by decide) ?_
  refine lv_istore_n (lv' := [(2, .int 0), (0, .ref (ad 137)), (1, .int a1)]) cx.1 cx.2.1 dX12_addProduct_1 rfl hl (by decide) rfl (fun ls hl => ?_)
  have L2 : ∀ (j : Nat) (σ : md_S) (l1 : Int32) (l2 : Int32) (q : ((Int32 × md_S) ⊕ (md_S × Int32))) (H : Heap) (locs : List Loc) (ls : Array Slot), f_X12_addProduct_L2 n l1 j σ l2 = some q → hp_w D vwCl (hp_Tl cA) E (hp_A (md_pic cA ad σ0) sz) ss H locs (md_pic cA ad σ) → lv_has ls 4 [(0, .ref (ad 137)), (1, .int l1), (2, .int l2)] → (∀ t, q = Sum.inr t → ∀ (H : Heap) (locs : List Loc) (ls : Array Slot), hp_w D vwCl (hp_Tl cA) E (hp_A (md_pic cA ad σ0) sz) ss H locs (md_pic cA ad t.1) → lv_has ls 4 [(0, .ref (ad 137)), (1, .int l1)] → W pp l ee ({ frames := 0, cells := 0, slots := 0, locals := 0 }) ss mm [.ref (ad 137), .int a1].toArray bb mt cd H locs 0 0 (MQ bb (hp_Qv D vwCl (hp_Tl cA) sz (md_pic cA ad σ0) (fun u => u = md_pic cA ad p.2)) [.ref (ad 137), .int a1].toArray ss 0 0 (hp_A (md_pic cA ad σ0) sz)) (F0 mm 34 ls [])) → (∀ r, q = Sum.inl r → r = p) → W pp l ee ({ frames := 0, cells := 0, slots := 0, locals := 0 }) ss mm [.ref (ad 137), .int a1].toArray bb mt cd H locs 0 0 (MQ bb (hp_Qv D vwCl (hp_Tl cA) sz (md_pic cA ad σ0) (fun u => u = md_pic cA ad p.2)) [.ref (ad 137), .int a1].toArray ss 0 0 (hp_A (md_pic cA ad σ0) sz)) (F0 mm 2 ls []) := by
    intro j
    induction j with
    | zero => intro σ l1 l2 q H locs ls h; exact nomatch h
    | succ j ih =>
      intro σ l1 l2 q H locs ls h hw hl K KR
      refine lv_iload_n cx.1 cx.2.1 dX12_addProduct_2 rfl (lv_at hl 2 rfl) ?_
      refine lv_aload_n cx.1 cx.2.1 dX12_addProduct_3 rfl (lv_at hl 0 rfl) ?_
      refine md_gI (k := 134) cx hw hin12c rfl (by decide) (List.mem_cons_of_mem _ mm_521) dX12_addProduct_4 ?_
      refine lv_icmp_ge (tgt := 34) cx.1 cx.2.1 dX12_addProduct_7 (by decide) (fun c7 => ?_) (fun c7 => ?_)
      · have h := md_ip c7 h
        exact K _ (Option.some.inj h).symm _ _ _ hw (lv_sub hl [0, 1] rfl)
      · have h := md_in c7 h
        refine lv_aload_n cx.1 cx.2.1 dX12_addProduct_10 rfl (lv_at hl 0 rfl) ?_
        refine md_gR (k := 133) cx hw hin12c (by decide) (by decide) (List.mem_cons_of_mem _ mm_522) dX12_addProduct_11 ?_
        refine lv_iload_n cx.1 cx.2.1 dX12_addProduct_14 rfl (lv_at hl 2 rfl) ?_
        obtain ⟨v1, e_v1, h⟩ := md_ob h
        refine md_lI (k := 133) hj cx hw (by decide) rfl rfl rfl e_v1 dX12_addProduct_15 ?_
        refine lv_iload_n cx.1 cx.2.1 dX12_addProduct_16 rfl (lv_at hl 1 rfl) ?_
        refine lv_iand cx.1 cx.2.1 dX12_addProduct_17 ?_
        refine lv_aload_n cx.1 cx.2.1 dX12_addProduct_18 rfl (lv_at hl 0 rfl) ?_
        refine md_gR (k := 133) cx hw hin12c (by decide) (by decide) (List.mem_cons_of_mem _ mm_522) dX12_addProduct_19 ?_
        refine lv_iload_n cx.1 cx.2.1 dX12_addProduct_22 rfl (lv_at hl 2 rfl) ?_
        obtain ⟨v2, e_v2, h⟩ := md_ob h
        refine md_lI (k := 133) hj cx hw (by decide) rfl rfl rfl e_v2 dX12_addProduct_23 ?_
        refine lv_icmp_ne (tgt := 28) cx.1 cx.2.1 dX12_addProduct_24 (by decide) (fun c24 => ?_) (fun c24 => ?_)
        · have h := md_in c24 h
          refine lv_iinc (v := (l2 + 1)) (lv' := [(2, .int (l2 + 1)), (0, .ref (ad 137)), (1, .int l1)]) cx.1 cx.2.1 dX12_addProduct_28 hl (k := 2) rfl rfl (by decide) rfl (fun ls hl => ?_)
          refine lv_goto (tgt := 2) cx.1 cx.2.1 dX12_addProduct_31 (by decide) ?_
          exact ih σ l1 ((l2 + 1)) q _ _ _ h hw (lv_sub hl [1, 2, 0] rfl) K KR
        · have h := md_ip c24 h
          exact hp_vret cx hw (md_retv (congrArg some (KR _ (Option.some.inj h).symm))) dX12_addProduct_27
  obtain ⟨q3, e_q3, h⟩ := md_ob h
  refine L2 n σ0 a1 0 q3 _ _ _ e_q3 hw (lv_sub hl [1, 2, 0] rfl) (fun t3 hq3 H locs ls hw hl => ?_) (fun r hr => by subst hr; exact Option.some.inj h)
  subst hq3
  have h := md_inr h
  refine lv_iconst (v := 0) cx.1 cx.2.1 dX12_addProduct_34 (by decide) ?_
  refine lv_istore_n (lv' := [(2, .int 0), (0, .ref (ad 137)), (1, .int a1)]) cx.1 cx.2.1 dX12_addProduct_35 rfl hl (by decide) rfl (fun ls hl => ?_)
  refine lv_iconst (v := 0) cx.1 cx.2.1 dX12_addProduct_36 (by decide) ?_
  refine lv_istore_n (lv' := [(3, .int 0), (2, .int 0), (0, .ref (ad 137)), (1, .int a1)]) cx.1 cx.2.1 dX12_addProduct_37 rfl hl (by decide) rfl (fun ls hl => ?_)
  have L38 : ∀ (j : Nat) (σ : md_S) (l1 : Int32) (l2 : Int32) (l3 : Int32) (q : (md_S × Int32 × Int32)) (H : Heap) (locs : List Loc) (ls : Array Slot), f_X12_addProduct_L38 n l1 j σ l2 l3 = some q → hp_w D vwCl (hp_Tl cA) E (hp_A (md_pic cA ad σ0) sz) ss H locs (md_pic cA ad σ) → lv_has ls 4 [(0, .ref (ad 137)), (1, .int l1), (2, .int l2), (3, .int l3)] → (∀ (H : Heap) (locs : List Loc) (ls : Array Slot), hp_w D vwCl (hp_Tl cA) E (hp_A (md_pic cA ad σ0) sz) ss H locs (md_pic cA ad q.1) → lv_has ls 4 [(0, .ref (ad 137)), (1, .int l1), (2, .int q.2.1)] → W pp l ee ({ frames := 0, cells := 0, slots := 0, locals := 0 }) ss mm [.ref (ad 137), .int a1].toArray bb mt cd H locs 0 0 (MQ bb (hp_Qv D vwCl (hp_Tl cA) sz (md_pic cA ad σ0) (fun u => u = md_pic cA ad p.2)) [.ref (ad 137), .int a1].toArray ss 0 0 (hp_A (md_pic cA ad σ0) sz)) (F0 mm 79 ls [])) → W pp l ee ({ frames := 0, cells := 0, slots := 0, locals := 0 }) ss mm [.ref (ad 137), .int a1].toArray bb mt cd H locs 0 0 (MQ bb (hp_Qv D vwCl (hp_Tl cA) sz (md_pic cA ad σ0) (fun u => u = md_pic cA ad p.2)) [.ref (ad 137), .int a1].toArray ss 0 0 (hp_A (md_pic cA ad σ0) sz)) (F0 mm 38 ls []) := by
    intro j
    induction j with
    | zero => intro σ l1 l2 l3 q H locs ls h; exact nomatch h
    | succ j ih =>
      intro σ l1 l2 l3 q H locs ls h hw hl K
      have J73 : ∀ (σ : md_S) (l2 : Int32) (l3 : Int32) (H : Heap) (locs : List Loc) (ls : Array Slot), f_X12_addProduct_J73 n l1 (f_X12_addProduct_L38 n l1 j) σ l2 l3 = some q → hp_w D vwCl (hp_Tl cA) E (hp_A (md_pic cA ad σ0) sz) ss H locs (md_pic cA ad σ) → lv_has ls 4 [(0, .ref (ad 137)), (1, .int l1), (2, .int l2), (3, .int l3)] → W pp l ee ({ frames := 0, cells := 0, slots := 0, locals := 0 }) ss mm [.ref (ad 137), .int a1].toArray bb mt cd H locs 0 0 (MQ bb (hp_Qv D vwCl (hp_Tl cA) sz (md_pic cA ad σ0) (fun u => u = md_pic cA ad p.2)) [.ref (ad 137), .int a1].toArray ss 0 0 (hp_A (md_pic cA ad σ0) sz)) (F0 mm 73 ls []) := by
        intro σ l2 l3 H locs ls h hw hl
        refine lv_iinc (v := (l3 + 1)) (lv' := [(3, .int (l3 + 1)), (0, .ref (ad 137)), (1, .int l1), (2, .int l2)]) cx.1 cx.2.1 dX12_addProduct_73 hl (k := 3) rfl rfl (by decide) rfl (fun ls hl => ?_)
        refine lv_goto (tgt := 38) cx.1 cx.2.1 dX12_addProduct_76 (by decide) ?_
        exact ih σ l1 l2 ((l3 + 1)) q _ _ _ h hw (lv_sub hl [1, 2, 3, 0] rfl) K
      refine lv_iload_n cx.1 cx.2.1 dX12_addProduct_38 rfl (lv_at hl 3 rfl) ?_
      refine lv_aload_n cx.1 cx.2.1 dX12_addProduct_39 rfl (lv_at hl 0 rfl) ?_
      refine md_gI (k := 134) cx hw hin12c rfl (by decide) (List.mem_cons_of_mem _ mm_521) dX12_addProduct_40 ?_
      refine lv_icmp_ge (tgt := 79) cx.1 cx.2.1 dX12_addProduct_43 (by decide) (fun c43 => ?_) (fun c43 => ?_)
      · have h := md_ip c43 h
        obtain rfl := Option.some.inj h
        exact K _ _ _ hw (lv_sub hl [0, 1, 2] rfl)
      · have h := md_in c43 h
        refine lv_aload_n cx.1 cx.2.1 dX12_addProduct_46 rfl (lv_at hl 0 rfl) ?_
        refine md_gR (k := 133) cx hw hin12c (by decide) (by decide) (List.mem_cons_of_mem _ mm_522) dX12_addProduct_47 ?_
        refine lv_iload_n cx.1 cx.2.1 dX12_addProduct_50 rfl (lv_at hl 3 rfl) ?_
        obtain ⟨v4, e_v4, h⟩ := md_ob h
        refine md_lI (k := 133) hj cx hw (by decide) rfl rfl rfl e_v4 dX12_addProduct_51 ?_
        refine lv_iload_n cx.1 cx.2.1 dX12_addProduct_52 rfl (lv_at hl 1 rfl) ?_
        refine lv_iand cx.1 cx.2.1 dX12_addProduct_53 ?_
        refine lv_iload_n cx.1 cx.2.1 dX12_addProduct_54 rfl (lv_at hl 1 rfl) ?_
        refine lv_icmp_eq (tgt := 73) cx.1 cx.2.1 dX12_addProduct_55 (by decide) (fun c55 => ?_) (fun c55 => ?_)
        · have h := md_ip c55 h
          exact J73 σ l2 l3 _ _ _ h hw (lv_sub hl [0, 1, 2, 3] rfl)
        · have h := md_in c55 h
          refine lv_aload_n cx.1 cx.2.1 dX12_addProduct_58 rfl (lv_at hl 0 rfl) ?_
          refine md_gR (k := 133) cx hw hin12c (by decide) (by decide) (List.mem_cons_of_mem _ mm_522) dX12_addProduct_59 ?_
          refine lv_iload_n cx.1 cx.2.1 dX12_addProduct_62 rfl (lv_at hl 2 rfl) ?_
          refine lv_aload_n cx.1 cx.2.1 dX12_addProduct_63 rfl (lv_at hl 0 rfl) ?_
          refine md_gR (k := 133) cx hw hin12c (by decide) (by decide) (List.mem_cons_of_mem _ mm_522) dX12_addProduct_64 ?_
          refine lv_iload_n cx.1 cx.2.1 dX12_addProduct_67 rfl (lv_at hl 3 rfl) ?_
          obtain ⟨v5, e_v5, h⟩ := md_ob h
          refine md_lI (k := 133) hj cx hw (by decide) rfl rfl rfl e_v5 dX12_addProduct_68 ?_
          obtain ⟨σ6, e_σ6, h⟩ := md_ob h
          refine md_sI (k := 133) hj cx hw (by decide) rfl rfl rfl e_σ6 dX12_addProduct_69 (fun H locs hw => ?_)
          refine lv_iinc (v := (l2 + 1)) (lv' := [(2, .int (l2 + 1)), (0, .ref (ad 137)), (1, .int l1), (3, .int l3)]) cx.1 cx.2.1 dX12_addProduct_70 hl (k := 2) rfl rfl (by decide) rfl (fun ls hl => ?_)
          exact J73 σ6 ((l2 + 1)) l3 _ _ _ h hw (lv_sub hl [1, 2, 0, 3] rfl)
  obtain ⟨q7, e_q7, h⟩ := md_ob h
  refine L38 n t3.1 a1 0 0 q7 _ _ _ e_q7 hw (lv_sub hl [2, 3, 1, 0] rfl) (fun H locs ls hw hl => ?_)
  refine lv_iload_n cx.1 cx.2.1 dX12_addProduct_79 rfl (lv_at hl 2 rfl) ?_
  refine lv_istore_n (lv' := [(3, .int q7.2.1), (0, .ref (ad 137)), (1, .int a1), (2, .int q7.2.1)]) cx.1 cx.2.1 dX12_addProduct_80 rfl hl (by decide) rfl (fun ls hl => ?_)
  have L81 : ∀ (j : Nat) (σ : md_S) (l1 : Int32) (l2 : Int32) (l3 : Int32) (q : (md_S × Int32)) (H : Heap) (locs : List Loc) (ls : Array Slot), f_X12_addProduct_L81 n l1 l2 j σ l3 = some q → hp_w D vwCl (hp_Tl cA) E (hp_A (md_pic cA ad σ0) sz) ss H locs (md_pic cA ad σ) → lv_has ls 4 [(0, .ref (ad 137)), (1, .int l1), (2, .int l2), (3, .int l3)] → (∀ (H : Heap) (locs : List Loc) (ls : Array Slot), hp_w D vwCl (hp_Tl cA) E (hp_A (md_pic cA ad σ0) sz) ss H locs (md_pic cA ad q.1) → lv_has ls 4 [(0, .ref (ad 137)), (1, .int l1), (2, .int l2), (3, .int q.2)] → W pp l ee ({ frames := 0, cells := 0, slots := 0, locals := 0 }) ss mm [.ref (ad 137), .int a1].toArray bb mt cd H locs 0 0 (MQ bb (hp_Qv D vwCl (hp_Tl cA) sz (md_pic cA ad σ0) (fun u => u = md_pic cA ad p.2)) [.ref (ad 137), .int a1].toArray ss 0 0 (hp_A (md_pic cA ad σ0) sz)) (F0 mm 117 ls [])) → W pp l ee ({ frames := 0, cells := 0, slots := 0, locals := 0 }) ss mm [.ref (ad 137), .int a1].toArray bb mt cd H locs 0 0 (MQ bb (hp_Qv D vwCl (hp_Tl cA) sz (md_pic cA ad σ0) (fun u => u = md_pic cA ad p.2)) [.ref (ad 137), .int a1].toArray ss 0 0 (hp_A (md_pic cA ad σ0) sz)) (F0 mm 81 ls []) := by
    intro j
    induction j with
    | zero => intro σ l1 l2 l3 q H locs ls h; exact nomatch h
    | succ j ih =>
      intro σ l1 l2 l3 q H locs ls h hw hl K
      refine lv_iload_n cx.1 cx.2.1 dX12_addProduct_81 rfl (lv_at hl 3 rfl) ?_
      refine lv_if_le (tgt := 117) cx.1 cx.2.1 dX12_addProduct_82 (by decide) (fun c82 => ?_) (fun c82 => ?_)
      · have h := md_ip c82 h
        obtain rfl := Option.some.inj h
        exact K _ _ _ hw (lv_sub hl [0, 1, 2, 3] rfl)
      · have h := md_in c82 h
        refine lv_aload_n cx.1 cx.2.1 dX12_addProduct_85 rfl (lv_at hl 0 rfl) ?_
        refine md_gR (k := 133) cx hw hin12c (by decide) (by decide) (List.mem_cons_of_mem _ mm_522) dX12_addProduct_86 ?_
        refine lv_iload_n cx.1 cx.2.1 dX12_addProduct_89 rfl (lv_at hl 3 rfl) ?_
        refine lv_iconst (v := 1) cx.1 cx.2.1 dX12_addProduct_90 (by decide) ?_
        refine lv_isub cx.1 cx.2.1 dX12_addProduct_91 ?_
        obtain ⟨v8, e_v8, h⟩ := md_ob h
        refine md_lI (k := 133) hj cx hw (by decide) rfl rfl rfl e_v8 dX12_addProduct_92 ?_
        refine lv_iload_n cx.1 cx.2.1 dX12_addProduct_93 rfl (lv_at hl 1 rfl) ?_
        refine lv_icmp_le (tgt := 117) cx.1 cx.2.1 dX12_addProduct_94 (by decide) (fun c94 => ?_) (fun c94 => ?_)
        · have h := md_ip c94 h
          obtain rfl := Option.some.inj h
          exact K _ _ _ hw (lv_sub hl [0, 1, 2, 3] rfl)
        · have h := md_in c94 h
          refine lv_aload_n cx.1 cx.2.1 dX12_addProduct_97 rfl (lv_at hl 0 rfl) ?_
          refine md_gR (k := 133) cx hw hin12c (by decide) (by decide) (List.mem_cons_of_mem _ mm_522) dX12_addProduct_98 ?_
          refine lv_iload_n cx.1 cx.2.1 dX12_addProduct_101 rfl (lv_at hl 3 rfl) ?_
          refine lv_aload_n cx.1 cx.2.1 dX12_addProduct_102 rfl (lv_at hl 0 rfl) ?_
          refine md_gR (k := 133) cx hw hin12c (by decide) (by decide) (List.mem_cons_of_mem _ mm_522) dX12_addProduct_103 ?_
          refine lv_iload_n cx.1 cx.2.1 dX12_addProduct_106 rfl (lv_at hl 3 rfl) ?_
          refine lv_iconst (v := 1) cx.1 cx.2.1 dX12_addProduct_107 (by decide) ?_
          refine lv_isub cx.1 cx.2.1 dX12_addProduct_108 ?_
          obtain ⟨v9, e_v9, h⟩ := md_ob h
          refine md_lI (k := 133) hj cx hw (by decide) rfl rfl rfl e_v9 dX12_addProduct_109 ?_
          obtain ⟨σ10, e_σ10, h⟩ := md_ob h
          refine md_sI (k := 133) hj cx hw (by decide) rfl rfl rfl e_σ10 dX12_addProduct_110 (fun H locs hw => ?_)
          refine lv_iinc (v := (l3 + (-1))) (lv' := [(3, .int (l3 + (-1))), (0, .ref (ad 137)), (1, .int l1), (2, .int l2)]) cx.1 cx.2.1 dX12_addProduct_111 hl (k := 3) rfl rfl (by decide) rfl (fun ls hl => ?_)
          refine lv_goto (tgt := 81) cx.1 cx.2.1 dX12_addProduct_114 (by decide) ?_
          exact ih σ10 l1 l2 ((l3 + (-1))) q _ _ _ h hw (lv_sub hl [1, 2, 3, 0] rfl) K
  obtain ⟨q11, e_q11, h⟩ := md_ob h
  refine L81 n q7.1 a1 (q7.2.1) (q7.2.1) q11 _ _ _ e_q11 hw (lv_sub hl [1, 2, 3, 0] rfl) (fun H locs ls hw hl => ?_)
  refine lv_aload_n cx.1 cx.2.1 dX12_addProduct_117 rfl (lv_at hl 0 rfl) ?_
  refine md_gR (k := 133) cx hw hin12c (by decide) (by decide) (List.mem_cons_of_mem _ mm_522) dX12_addProduct_118 ?_
  refine lv_iload_n cx.1 cx.2.1 dX12_addProduct_121 rfl (lv_at hl 3 rfl) ?_
  refine lv_iload_n cx.1 cx.2.1 dX12_addProduct_122 rfl (lv_at hl 1 rfl) ?_
  obtain ⟨σ12, e_σ12, h⟩ := md_ob h
  refine md_sI (k := 133) hj cx hw (by decide) rfl rfl rfl e_σ12 dX12_addProduct_123 (fun H locs hw => ?_)
  refine lv_aload_n cx.1 cx.2.1 dX12_addProduct_124 rfl (lv_at hl 0 rfl) ?_
  refine lv_iload_n cx.1 cx.2.1 dX12_addProduct_125 rfl (lv_at hl 2 rfl) ?_
  refine lv_iconst (v := 1) cx.1 cx.2.1 dX12_addProduct_126 (by decide) ?_
  refine lv_iadd cx.1 cx.2.1 dX12_addProduct_127 ?_
  obtain ⟨σ13, e_σ13, h⟩ := md_ob h
  refine md_pI (k := 134) cx hw hin12c rfl (by decide) rfl (List.mem_cons_of_mem _ mm_521) rfl e_σ13 dX12_addProduct_128 (fun H locs hw => ?_)
  exact hp_vret cx hw (md_retv h) dX12_addProduct_131
set_option maxHeartbeats 4000000 in
set_option maxRecDepth 100000 in
theorem km_X12_keepMade (l : Launch) (D : va_G) (cA : Nat → ClassId) (E : hp_N) (sz : Nat) (ad : Nat → Nat) (hj : md_inj ad) (hE : md_E E) (n : Nat) (σ0 : md_S) (p : (Int32 × md_S)) (h : f_X12_keepMade n σ0 = some p) : Met l yX12_keepMade (Cond.code yX12_keepMade cX12_keepMade 4 (some .int) :: v_MOD) ({ frames := 0, cells := 0, slots := 0, locals := 0 }) (hp_Pc D vwCl (hp_Tl cA) E sz (md_pic cA ad σ0) [.ref (ad 137)]) (hp_Qi D vwCl (hp_Tl cA) sz (md_pic cA ad σ0) (fun r u => r = p.1 ∧ u = md_pic cA ad p.2)) 0 0 (hp_A (md_pic cA ad σ0) sz) := by
  refine hp_ofW (cc := cX12_keepMade) (maxL := 4) (ret := (some .int)) (by decide) rfl (Nat.le_of_ble_eq_true rfl) ?_
  intro pp ee ss mm bb mt cd ls cx hsz hw hl
  have hl : lv_has ls 4 [(0, .ref (ad 137))] := hl
  refine lv_iconst (v := 1) cx.1 cx.2.1 dX12_keepMade_0 (by decide) ?_
  refine lv_istore_n (lv' := [(1, .int 1), (0, .ref (ad 137))]) cx.1 cx.2.1 dX12_keepMade_1 rfl hl (by decide) rfl (fun ls hl => ?_)
  have L2 : ∀ (j : Nat) (σ : md_S) (l1 : Int32) (q : ((Int32 × md_S) ⊕ (md_S × Int32))) (H : Heap) (locs : List Loc) (ls : Array Slot), f_X12_keepMade_L2 n j σ l1 = some q → hp_w D vwCl (hp_Tl cA) E (hp_A (md_pic cA ad σ0) sz) ss H locs (md_pic cA ad σ) → lv_has ls 4 [(0, .ref (ad 137)), (1, .int l1)] → (∀ t, q = Sum.inr t → ∀ (H : Heap) (locs : List Loc) (ls : Array Slot), hp_w D vwCl (hp_Tl cA) E (hp_A (md_pic cA ad σ0) sz) ss H locs (md_pic cA ad t.1) → lv_has ls 4 [(0, .ref (ad 137))] → W pp l ee ({ frames := 0, cells := 0, slots := 0, locals := 0 }) ss mm [.ref (ad 137)].toArray bb mt cd H locs 0 0 (MQ bb (hp_Qi D vwCl (hp_Tl cA) sz (md_pic cA ad σ0) (fun r u => r = p.1 ∧ u = md_pic cA ad p.2)) [.ref (ad 137)].toArray ss 0 0 (hp_A (md_pic cA ad σ0) sz)) (F0 mm 87 ls [])) → (∀ r, q = Sum.inl r → r = p) → W pp l ee ({ frames := 0, cells := 0, slots := 0, locals := 0 }) ss mm [.ref (ad 137)].toArray bb mt cd H locs 0 0 (MQ bb (hp_Qi D vwCl (hp_Tl cA) sz (md_pic cA ad σ0) (fun r u => r = p.1 ∧ u = md_pic cA ad p.2)) [.ref (ad 137)].toArray ss 0 0 (hp_A (md_pic cA ad σ0) sz)) (F0 mm 2 ls []) := by
    intro j
    induction j with
    | zero => intro σ l1 q H locs ls h; exact nomatch h
    | succ j ih =>
      intro σ l1 q H locs ls h hw hl K KR
      have J28 : ∀ (σ : md_S) (l1 : Int32) (t0 : Int32) (H : Heap) (locs : List Loc) (ls : Array Slot), f_X12_keepMade_J28 n (f_X12_keepMade_L2 n j) σ l1 t0 = some q → hp_w D vwCl (hp_Tl cA) E (hp_A (md_pic cA ad σ0) sz) ss H locs (md_pic cA ad σ) → lv_has ls 4 [(0, .ref (ad 137)), (1, .int l1)] → W pp l ee ({ frames := 0, cells := 0, slots := 0, locals := 0 }) ss mm [.ref (ad 137)].toArray bb mt cd H locs 0 0 (MQ bb (hp_Qi D vwCl (hp_Tl cA) sz (md_pic cA ad σ0) (fun r u => r = p.1 ∧ u = md_pic cA ad p.2)) [.ref (ad 137)].toArray ss 0 0 (hp_A (md_pic cA ad σ0) sz)) (F0 mm 28 ls [.int t0]) := by
        intro σ l1 t0 H locs ls h hw hl
        refine lv_istore_n (lv' := [(2, .int t0), (0, .ref (ad 137)), (1, .int l1)]) cx.1 cx.2.1 dX12_keepMade_28 rfl hl (by decide) rfl (fun ls hl => ?_)
        refine lv_iconst (v := 0) cx.1 cx.2.1 dX12_keepMade_29 (by decide) ?_
        refine lv_istore_n (lv' := [(3, .int 0), (2, .int t0), (0, .ref (ad 137)), (1, .int l1)]) cx.1 cx.2.1 dX12_keepMade_30 rfl hl (by decide) rfl (fun ls hl => ?_)
        have L31 : ∀ (j : Nat) (σ : md_S) (l1 : Int32) (l2 : Int32) (l3 : Int32) (q : (md_S × Int32 × Int32)) (H : Heap) (locs : List Loc) (ls : Array Slot), f_X12_keepMade_L31 n l1 j σ l2 l3 = some q → hp_w D vwCl (hp_Tl cA) E (hp_A (md_pic cA ad σ0) sz) ss H locs (md_pic cA ad σ) → lv_has ls 4 [(0, .ref (ad 137)), (1, .int l1), (2, .int l2), (3, .int l3)] → (∀ (H : Heap) (locs : List Loc) (ls : Array Slot), hp_w D vwCl (hp_Tl cA) E (hp_A (md_pic cA ad σ0) sz) ss H locs (md_pic cA ad q.1) → lv_has ls 4 [(0, .ref (ad 137)), (1, .int l1), (2, .int q.2.1)] → W pp l ee ({ frames := 0, cells := 0, slots := 0, locals := 0 }) ss mm [.ref (ad 137)].toArray bb mt cd H locs 0 0 (MQ bb (hp_Qi D vwCl (hp_Tl cA) sz (md_pic cA ad σ0) (fun r u => r = p.1 ∧ u = md_pic cA ad p.2)) [.ref (ad 137)].toArray ss 0 0 (hp_A (md_pic cA ad σ0) sz)) (F0 mm 75 ls [])) → W pp l ee ({ frames := 0, cells := 0, slots := 0, locals := 0 }) ss mm [.ref (ad 137)].toArray bb mt cd H locs 0 0 (MQ bb (hp_Qi D vwCl (hp_Tl cA) sz (md_pic cA ad σ0) (fun r u => r = p.1 ∧ u = md_pic cA ad p.2)) [.ref (ad 137)].toArray ss 0 0 (hp_A (md_pic cA ad σ0) sz)) (F0 mm 31 ls []) := by
          intro j
          induction j with
          | zero => intro σ l1 l2 l3 q H locs ls h; exact nomatch h
          | succ j ih =>
            intro σ l1 l2 l3 q H locs ls h hw hl K
            have J68 : ∀ (σ : md_S) (l3 : Int32) (t0 : Int32) (H : Heap) (locs : List Loc) (ls : Array Slot), f_X12_keepMade_J68 n l1 (f_X12_keepMade_L31 n l1 j) σ l3 t0 = some q → hp_w D vwCl (hp_Tl cA) E (hp_A (md_pic cA ad σ0) sz) ss H locs (md_pic cA ad σ) → lv_has ls 4 [(0, .ref (ad 137)), (1, .int l1), (3, .int l3)] → W pp l ee ({ frames := 0, cells := 0, slots := 0, locals := 0 }) ss mm [.ref (ad 137)].toArray bb mt cd H locs 0 0 (MQ bb (hp_Qi D vwCl (hp_Tl cA) sz (md_pic cA ad σ0) (fun r u => r = p.1 ∧ u = md_pic cA ad p.2)) [.ref (ad 137)].toArray ss 0 0 (hp_A (md_pic cA ad σ0) sz)) (F0 mm 68 ls [.int t0]) := by
              intro σ l3 t0 H locs ls h hw hl
              refine lv_istore_n (lv' := [(2, .int t0), (0, .ref (ad 137)), (1, .int l1), (3, .int l3)]) cx.1 cx.2.1 dX12_keepMade_68 rfl hl (by decide) rfl (fun ls hl => ?_)
              refine lv_iinc (v := (l3 + 1)) (lv' := [(3, .int (l3 + 1)), (2, .int t0), (0, .ref (ad 137)), (1, .int l1)]) cx.1 cx.2.1 dX12_keepMade_69 hl (k := 3) rfl rfl (by decide) rfl (fun ls hl => ?_)
              refine lv_goto (tgt := 31) cx.1 cx.2.1 dX12_keepMade_72 (by decide) ?_
              exact ih σ l1 t0 ((l3 + 1)) q _ _ _ h hw (lv_sub hl [2, 3, 1, 0] rfl) K
            refine lv_iload_n cx.1 cx.2.1 dX12_keepMade_31 rfl (lv_at hl 3 rfl) ?_
            refine lv_aload_n cx.1 cx.2.1 dX12_keepMade_32 rfl (lv_at hl 0 rfl) ?_
            refine md_gI (k := 134) cx hw hin12c rfl (by decide) (List.mem_cons_of_mem _ mm_521) dX12_keepMade_33 ?_
            refine lv_icmp_ge (tgt := 75) cx.1 cx.2.1 dX12_keepMade_36 (by decide) (fun c36 => ?_) (fun c36 => ?_)
            · have h := md_ip c36 h
              obtain rfl := Option.some.inj h
              exact K _ _ _ hw (lv_sub hl [0, 1, 2] rfl)
            · have h := md_in c36 h
              refine lv_iload_n cx.1 cx.2.1 dX12_keepMade_39 rfl (lv_at hl 2 rfl) ?_
              refine lv_if_eq (tgt := 75) cx.1 cx.2.1 dX12_keepMade_40 (by decide) (fun c40 => ?_) (fun c40 => ?_)
              · have h := md_ip c40 h
                obtain rfl := Option.some.inj h
                exact K _ _ _ hw (lv_sub hl [0, 1, 2] rfl)
              · have h := md_in c40 h
                refine lv_aload_n cx.1 cx.2.1 dX12_keepMade_43 rfl (lv_at hl 0 rfl) ?_
                refine md_gR (k := 132) cx hw hin12c (by decide) (by decide) (List.mem_cons_of_mem _ mm_525) dX12_keepMade_44 ?_
                refine lv_bipush (v := 16) cx.1 cx.2.1 dX12_keepMade_47 (by decide) ?_
                refine lv_iload_n cx.1 cx.2.1 dX12_keepMade_49 rfl (lv_at hl 1 rfl) ?_
                refine lv_imul cx.1 cx.2.1 dX12_keepMade_50 ?_
                refine lv_iload_n cx.1 cx.2.1 dX12_keepMade_51 rfl (lv_at hl 3 rfl) ?_
                refine lv_iadd cx.1 cx.2.1 dX12_keepMade_52 ?_
                obtain ⟨v1, e_v1, h⟩ := md_ob h
                refine md_lI (k := 132) hj cx hw (by decide) rfl rfl rfl e_v1 dX12_keepMade_53 ?_
                refine lv_aload_n cx.1 cx.2.1 dX12_keepMade_54 rfl (lv_at hl 0 rfl) ?_
                refine md_gR (k := 133) cx hw hin12c (by decide) (by decide) (List.mem_cons_of_mem _ mm_522) dX12_keepMade_55 ?_
                refine lv_iload_n cx.1 cx.2.1 dX12_keepMade_58 rfl (lv_at hl 3 rfl) ?_
                obtain ⟨v2, e_v2, h⟩ := md_ob h
                refine md_lI (k := 133) hj cx hw (by decide) rfl rfl rfl e_v2 dX12_keepMade_59 ?_
                refine lv_icmp_ne (tgt := 67) cx.1 cx.2.1 dX12_keepMade_60 (by decide) (fun c60 => ?_) (fun c60 => ?_)
                · have h := md_in c60 h
                  refine lv_iconst (v := 0) cx.1 cx.2.1 dX12_keepMade_67 (by decide) ?_
                  exact J68 σ l3 0 _ _ _ h hw (lv_sub hl [0, 1, 3] rfl)
                · have h := md_ip c60 h
                  refine lv_iconst (v := 1) cx.1 cx.2.1 dX12_keepMade_63 (by decide) ?_
                  refine lv_goto (tgt := 68) cx.1 cx.2.1 dX12_keepMade_64 (by decide) ?_
                  exact J68 σ l3 1 _ _ _ h hw (lv_sub hl [0, 1, 3] rfl)
        obtain ⟨q3, e_q3, h⟩ := md_ob h
        refine L31 n σ l1 t0 0 q3 _ _ _ e_q3 hw (lv_sub hl [2, 3, 1, 0] rfl) (fun H locs ls hw hl => ?_)
        refine lv_iload_n cx.1 cx.2.1 dX12_keepMade_75 rfl (lv_at hl 2 rfl) ?_
        refine lv_if_eq (tgt := 81) cx.1 cx.2.1 dX12_keepMade_76 (by decide) (fun c76 => ?_) (fun c76 => ?_)
        · have h := md_ip c76 h
          refine lv_iinc (v := (l1 + 1)) (lv' := [(1, .int (l1 + 1)), (0, .ref (ad 137)), (2, .int q3.2.1)]) cx.1 cx.2.1 dX12_keepMade_81 hl (k := 1) rfl rfl (by decide) rfl (fun ls hl => ?_)
          refine lv_goto (tgt := 2) cx.1 cx.2.1 dX12_keepMade_84 (by decide) ?_
          exact ih q3.1 ((l1 + 1)) q _ _ _ h hw (lv_sub hl [1, 0] rfl) K KR
        · have h := md_in c76 h
          refine lv_iload_n cx.1 cx.2.1 dX12_keepMade_79 rfl (lv_at hl 1 rfl) ?_
          exact hp_iret cx hw (md_ret (congrArg some (KR _ (Option.some.inj h).symm))) dX12_keepMade_80
      refine lv_iload_n cx.1 cx.2.1 dX12_keepMade_2 rfl (lv_at hl 1 rfl) ?_
      refine lv_aload_n cx.1 cx.2.1 dX12_keepMade_3 rfl (lv_at hl 0 rfl) ?_
      refine md_gI (k := 130) cx hw hin12c rfl (by decide) (List.mem_cons_of_mem _ mm_523) dX12_keepMade_4 ?_
      refine lv_icmp_ge (tgt := 87) cx.1 cx.2.1 dX12_keepMade_7 (by decide) (fun c7 => ?_) (fun c7 => ?_)
      · have h := md_ip c7 h
        exact K _ (Option.some.inj h).symm _ _ _ hw (lv_sub hl [0] rfl)
      · have h := md_in c7 h
        refine lv_aload_n cx.1 cx.2.1 dX12_keepMade_10 rfl (lv_at hl 0 rfl) ?_
        refine md_gR (k := 131) cx hw hin12c (by decide) (by decide) (List.mem_cons_of_mem _ mm_524) dX12_keepMade_11 ?_
        refine lv_iload_n cx.1 cx.2.1 dX12_keepMade_14 rfl (lv_at hl 1 rfl) ?_
        obtain ⟨v4, e_v4, h⟩ := md_ob h
        refine md_lI (k := 131) hj cx hw (by decide) rfl rfl rfl e_v4 dX12_keepMade_15 ?_
        refine lv_aload_n cx.1 cx.2.1 dX12_keepMade_16 rfl (lv_at hl 0 rfl) ?_
        refine md_gI (k := 134) cx hw hin12c rfl (by decide) (List.mem_cons_of_mem _ mm_521) dX12_keepMade_17 ?_
        refine lv_icmp_ne (tgt := 27) cx.1 cx.2.1 dX12_keepMade_20 (by decide) (fun c20 => ?_) (fun c20 => ?_)
        · have h := md_in c20 h
          refine lv_iconst (v := 0) cx.1 cx.2.1 dX12_keepMade_27 (by decide) ?_
          exact J28 σ l1 0 _ _ _ h hw (lv_sub hl [0, 1] rfl)
        · have h := md_ip c20 h
          refine lv_iconst (v := 1) cx.1 cx.2.1 dX12_keepMade_23 (by decide) ?_
          refine lv_goto (tgt := 28) cx.1 cx.2.1 dX12_keepMade_24 (by decide) ?_
          exact J28 σ l1 1 _ _ _ h hw (lv_sub hl [0, 1] rfl)
  obtain ⟨q5, e_q5, h⟩ := md_ob h
  refine L2 n σ0 1 q5 _ _ _ e_q5 hw (lv_sub hl [1, 0] rfl) (fun t5 hq5 H locs ls hw hl => ?_) (fun r hr => by subst hr; exact Option.some.inj h)
  subst hq5
  have h := md_inr h
  refine lv_aload_n cx.1 cx.2.1 dX12_keepMade_87 rfl (lv_at hl 0 rfl) ?_
  refine md_gR (k := 131) cx hw hin12c (by decide) (by decide) (List.mem_cons_of_mem _ mm_524) dX12_keepMade_88 ?_
  refine lv_aload_n cx.1 cx.2.1 dX12_keepMade_91 rfl (lv_at hl 0 rfl) ?_
  refine md_gI (k := 130) cx hw hin12c rfl (by decide) (List.mem_cons_of_mem _ mm_523) dX12_keepMade_92 ?_
  refine lv_aload_n cx.1 cx.2.1 dX12_keepMade_95 rfl (lv_at hl 0 rfl) ?_
  refine md_gI (k := 134) cx hw hin12c rfl (by decide) (List.mem_cons_of_mem _ mm_521) dX12_keepMade_96 ?_
  obtain ⟨σ6, e_σ6, h⟩ := md_ob h
  refine md_sI (k := 131) hj cx hw (by decide) rfl rfl rfl e_σ6 dX12_keepMade_99 (fun H locs hw => ?_)
  refine lv_iconst (v := 0) cx.1 cx.2.1 dX12_keepMade_100 (by decide) ?_
  refine lv_istore_n (lv' := [(1, .int 0), (0, .ref (ad 137))]) cx.1 cx.2.1 dX12_keepMade_101 rfl hl (by decide) rfl (fun ls hl => ?_)
  have L102 : ∀ (j : Nat) (σ : md_S) (l1 : Int32) (q : (md_S × Int32)) (H : Heap) (locs : List Loc) (ls : Array Slot), f_X12_keepMade_L102 n j σ l1 = some q → hp_w D vwCl (hp_Tl cA) E (hp_A (md_pic cA ad σ0) sz) ss H locs (md_pic cA ad σ) → lv_has ls 4 [(0, .ref (ad 137)), (1, .int l1)] → (∀ (H : Heap) (locs : List Loc) (ls : Array Slot), hp_w D vwCl (hp_Tl cA) E (hp_A (md_pic cA ad σ0) sz) ss H locs (md_pic cA ad q.1) → lv_has ls 4 [(0, .ref (ad 137))] → W pp l ee ({ frames := 0, cells := 0, slots := 0, locals := 0 }) ss mm [.ref (ad 137)].toArray bb mt cd H locs 0 0 (MQ bb (hp_Qi D vwCl (hp_Tl cA) sz (md_pic cA ad σ0) (fun r u => r = p.1 ∧ u = md_pic cA ad p.2)) [.ref (ad 137)].toArray ss 0 0 (hp_A (md_pic cA ad σ0) sz)) (F0 mm 136 ls [])) → W pp l ee ({ frames := 0, cells := 0, slots := 0, locals := 0 }) ss mm [.ref (ad 137)].toArray bb mt cd H locs 0 0 (MQ bb (hp_Qi D vwCl (hp_Tl cA) sz (md_pic cA ad σ0) (fun r u => r = p.1 ∧ u = md_pic cA ad p.2)) [.ref (ad 137)].toArray ss 0 0 (hp_A (md_pic cA ad σ0) sz)) (F0 mm 102 ls []) := by
    intro j
    induction j with
    | zero => intro σ l1 q H locs ls h; exact nomatch h
    | succ j ih =>
      intro σ l1 q H locs ls h hw hl K
      refine lv_iload_n cx.1 cx.2.1 dX12_keepMade_102 rfl (lv_at hl 1 rfl) ?_
      refine lv_aload_n cx.1 cx.2.1 dX12_keepMade_103 rfl (lv_at hl 0 rfl) ?_
      refine md_gI (k := 134) cx hw hin12c rfl (by decide) (List.mem_cons_of_mem _ mm_521) dX12_keepMade_104 ?_
      refine lv_icmp_ge (tgt := 136) cx.1 cx.2.1 dX12_keepMade_107 (by decide) (fun c107 => ?_) (fun c107 => ?_)
      · have h := md_ip c107 h
        obtain rfl := Option.some.inj h
        exact K _ _ _ hw (lv_sub hl [0] rfl)
      · have h := md_in c107 h
        refine lv_aload_n cx.1 cx.2.1 dX12_keepMade_110 rfl (lv_at hl 0 rfl) ?_
        refine md_gR (k := 132) cx hw hin12c (by decide) (by decide) (List.mem_cons_of_mem _ mm_525) dX12_keepMade_111 ?_
        refine lv_bipush (v := 16) cx.1 cx.2.1 dX12_keepMade_114 (by decide) ?_
        refine lv_aload_n cx.1 cx.2.1 dX12_keepMade_116 rfl (lv_at hl 0 rfl) ?_
        refine md_gI (k := 130) cx hw hin12c rfl (by decide) (List.mem_cons_of_mem _ mm_523) dX12_keepMade_117 ?_
        refine lv_imul cx.1 cx.2.1 dX12_keepMade_120 ?_
        refine lv_iload_n cx.1 cx.2.1 dX12_keepMade_121 rfl (lv_at hl 1 rfl) ?_
        refine lv_iadd cx.1 cx.2.1 dX12_keepMade_122 ?_
        refine lv_aload_n cx.1 cx.2.1 dX12_keepMade_123 rfl (lv_at hl 0 rfl) ?_
        refine md_gR (k := 133) cx hw hin12c (by decide) (by decide) (List.mem_cons_of_mem _ mm_522) dX12_keepMade_124 ?_
        refine lv_iload_n cx.1 cx.2.1 dX12_keepMade_127 rfl (lv_at hl 1 rfl) ?_
        obtain ⟨v7, e_v7, h⟩ := md_ob h
        refine md_lI (k := 133) hj cx hw (by decide) rfl rfl rfl e_v7 dX12_keepMade_128 ?_
        obtain ⟨σ8, e_σ8, h⟩ := md_ob h
        refine md_sI (k := 132) hj cx hw (by decide) rfl rfl rfl e_σ8 dX12_keepMade_129 (fun H locs hw => ?_)
        refine lv_iinc (v := (l1 + 1)) (lv' := [(1, .int (l1 + 1)), (0, .ref (ad 137))]) cx.1 cx.2.1 dX12_keepMade_130 hl (k := 1) rfl rfl (by decide) rfl (fun ls hl => ?_)
        refine lv_goto (tgt := 102) cx.1 cx.2.1 dX12_keepMade_133 (by decide) ?_
        exact ih σ8 ((l1 + 1)) q _ _ _ h hw (lv_sub hl [1, 0] rfl) K
  obtain ⟨q9, e_q9, h⟩ := md_ob h
  refine L102 n σ6 0 q9 _ _ _ e_q9 hw (lv_sub hl [1, 0] rfl) (fun H locs ls hw hl => ?_)
  refine lv_aload_n cx.1 cx.2.1 dX12_keepMade_136 rfl (lv_at hl 0 rfl) ?_
  refine lv_dup cx.1 cx.2.1 dX12_keepMade_137 rfl ?_
  refine md_gI (k := 130) cx hw hin12c rfl (by decide) (List.mem_cons_of_mem _ mm_523) dX12_keepMade_138 ?_
  refine lv_iconst (v := 1) cx.1 cx.2.1 dX12_keepMade_141 (by decide) ?_
  refine lv_iadd cx.1 cx.2.1 dX12_keepMade_142 ?_
  obtain ⟨σ10, e_σ10, h⟩ := md_ob h
  refine md_pI (k := 130) cx hw hin12c rfl (by decide) rfl (List.mem_cons_of_mem _ mm_523) rfl e_σ10 dX12_keepMade_143 (fun H locs hw => ?_)
  refine lv_aload_n cx.1 cx.2.1 dX12_keepMade_146 rfl (lv_at hl 0 rfl) ?_
  refine md_gI (k := 130) cx hw hin12c rfl (by decide) (List.mem_cons_of_mem _ mm_523) dX12_keepMade_147 ?_
  refine lv_iconst (v := 1) cx.1 cx.2.1 dX12_keepMade_150 (by decide) ?_
  refine lv_isub cx.1 cx.2.1 dX12_keepMade_151 ?_
  exact hp_iret cx hw (md_ret h) dX12_keepMade_152
set_option maxHeartbeats 4000000 in
set_option maxRecDepth 100000 in
theorem km_X12_contextOf (l : Launch) (D : va_G) (cA : Nat → ClassId) (E : hp_N) (sz : Nat) (ad : Nat → Nat) (hj : md_inj ad) (hE : md_E E) (n : Nat) (σ0 : md_S) (a1 : Int32) (a2 : Int32) (p : (Int32 × md_S)) (h : f_X12_contextOf n σ0 a1 a2 = some p) : Met l yX12_contextOf (Cond.code yX12_contextOf cX12_contextOf 7 (some .int) :: v_MOD) ({ frames := 1, cells := 0, slots := 0, locals := 23 }) (hp_Pc D vwCl (hp_Tl cA) E sz (md_pic cA ad σ0) [.ref (ad 137), .int a1, .int a2]) (hp_Qi D vwCl (hp_Tl cA) sz (md_pic cA ad σ0) (fun r u => r = p.1 ∧ u = md_pic cA ad p.2)) 0 0 (hp_A (md_pic cA ad σ0) sz) := by
  refine hp_ofW (cc := cX12_contextOf) (maxL := 7) (ret := (some .int)) (by decide) rfl (Nat.le_of_ble_eq_true rfl) ?_
  intro pp ee ss mm bb mt cd ls cx hsz hw hl
  have hl : lv_has ls 7 [(0, .ref (ad 137)), (1, .int a1), (2, .int a2)] := hl
  have J187 : ∀ (σ : md_S) (H : Heap) (locs : List Loc) (ls : Array Slot), f_X12_contextOf_J187 n σ = some p → hp_w D vwCl (hp_Tl cA) E (hp_A (md_pic cA ad σ0) sz) ss H locs (md_pic cA ad σ) → lv_has ls 7 [(0, .ref (ad 137))] → W pp l ee ({ frames := 1, cells := 0, slots := 0, locals := 23 }) ss mm [.ref (ad 137), .int a1, .int a2].toArray bb mt cd H locs 0 0 (MQ bb (hp_Qi D vwCl (hp_Tl cA) sz (md_pic cA ad σ0) (fun r u => r = p.1 ∧ u = md_pic cA ad p.2)) [.ref (ad 137), .int a1, .int a2].toArray ss 0 0 (hp_A (md_pic cA ad σ0) sz)) (F0 mm 187 ls []) := by
    intro σ H locs ls h hw hl
    refine lv_aload_n cx.1 cx.2.1 dX12_contextOf_187 rfl (lv_at hl 0 rfl) ?_
    obtain ⟨p1, e_p1, h⟩ := md_ob h
    refine hp_callVi (As := []) (rest := []) cx hw (km_X12_keepMade l D cA E _ ad hj hE n σ  p1 e_p1) (cwV 0 cx.2.2.2.2.2.1 (md_giV mm_530 mm_531 mm_532 mm_5 mm_533) rfl rfl rfl hd_X12_keepMade ⟨Nat.le_of_ble_eq_true rfl, Nat.le_of_ble_eq_true rfl⟩) md_at0 rfl rfl hl.1 rfl (Nat.le_of_ble_eq_true rfl) dX12_contextOf_188 ⟨Nat.le_refl _, Nat.le_refl _⟩ (fun r u H locs hp hw => ?_)
    obtain ⟨rfl, rfl⟩ := hp
    exact hp_iret cx hw (md_ret h) dX12_contextOf_191
  have J64 : ∀ (σ : md_S) (l2 : Int32) (l3 : Int32) (t0 : Int32) (H : Heap) (locs : List Loc) (ls : Array Slot), f_X12_contextOf_J64 n σ l2 l3 t0 = some p → hp_w D vwCl (hp_Tl cA) E (hp_A (md_pic cA ad σ0) sz) ss H locs (md_pic cA ad σ) → lv_has ls 7 [(0, .ref (ad 137)), (2, .int l2), (3, .int l3)] → W pp l ee ({ frames := 1, cells := 0, slots := 0, locals := 23 }) ss mm [.ref (ad 137), .int a1, .int a2].toArray bb mt cd H locs 0 0 (MQ bb (hp_Qi D vwCl (hp_Tl cA) sz (md_pic cA ad σ0) (fun r u => r = p.1 ∧ u = md_pic cA ad p.2)) [.ref (ad 137), .int a1, .int a2].toArray ss 0 0 (hp_A (md_pic cA ad σ0) sz)) (F0 mm 64 ls [.int t0]) := by
    intro σ l2 l3 t0 H locs ls h hw hl
    refine lv_istore (lv' := [(4, .int t0), (0, .ref (ad 137)), (2, .int l2), (3, .int l3)]) cx.1 cx.2.1 dX12_contextOf_64 hl (by decide) rfl (fun ls hl => ?_)
    refine lv_iconst (v := 0) cx.1 cx.2.1 dX12_contextOf_66 (by decide) ?_
    refine lv_istore (lv' := [(5, .int 0), (4, .int t0), (0, .ref (ad 137)), (2, .int l2), (3, .int l3)]) cx.1 cx.2.1 dX12_contextOf_67 hl (by decide) rfl (fun ls hl => ?_)
    have L69 : ∀ (j : Nat) (σ : md_S) (l2 : Int32) (l3 : Int32) (l4 : Int32) (l5 : Int32) (q : (md_S × Int32)) (H : Heap) (locs : List Loc) (ls : Array Slot), f_X12_contextOf_L69 n l2 l3 l4 j σ l5 = some q → hp_w D vwCl (hp_Tl cA) E (hp_A (md_pic cA ad σ0) sz) ss H locs (md_pic cA ad σ) → lv_has ls 7 [(0, .ref (ad 137)), (2, .int l2), (3, .int l3), (4, .int l4), (5, .int l5)] → (∀ (H : Heap) (locs : List Loc) (ls : Array Slot), hp_w D vwCl (hp_Tl cA) E (hp_A (md_pic cA ad σ0) sz) ss H locs (md_pic cA ad q.1) → lv_has ls 7 [(0, .ref (ad 137)), (2, .int l2), (3, .int l3), (4, .int l4)] → W pp l ee ({ frames := 1, cells := 0, slots := 0, locals := 23 }) ss mm [.ref (ad 137), .int a1, .int a2].toArray bb mt cd H locs 0 0 (MQ bb (hp_Qi D vwCl (hp_Tl cA) sz (md_pic cA ad σ0) (fun r u => r = p.1 ∧ u = md_pic cA ad p.2)) [.ref (ad 137), .int a1, .int a2].toArray ss 0 0 (hp_A (md_pic cA ad σ0) sz)) (F0 mm 104 ls [])) → W pp l ee ({ frames := 1, cells := 0, slots := 0, locals := 23 }) ss mm [.ref (ad 137), .int a1, .int a2].toArray bb mt cd H locs 0 0 (MQ bb (hp_Qi D vwCl (hp_Tl cA) sz (md_pic cA ad σ0) (fun r u => r = p.1 ∧ u = md_pic cA ad p.2)) [.ref (ad 137), .int a1, .int a2].toArray ss 0 0 (hp_A (md_pic cA ad σ0) sz)) (F0 mm 69 ls []) := by
      intro j
      induction j with
      | zero => intro σ l2 l3 l4 l5 q H locs ls h; exact nomatch h
      | succ j ih =>
        intro σ l2 l3 l4 l5 q H locs ls h hw hl K
        refine lv_iload cx.1 cx.2.1 dX12_contextOf_69 (lv_at hl 4 rfl) ?_
        refine lv_aload_n cx.1 cx.2.1 dX12_contextOf_71 rfl (lv_at hl 0 rfl) ?_
        refine md_gR (k := 131) cx hw hin12c (by decide) (by decide) (List.mem_cons_of_mem _ mm_524) dX12_contextOf_72 ?_
        refine lv_iload_n cx.1 cx.2.1 dX12_contextOf_75 rfl (lv_at hl 1 rfl) ?_
        obtain ⟨v2, e_v2, h⟩ := md_ob h
        refine md_lI (k := 131) hj cx hw (by decide) rfl rfl rfl e_v2 dX12_contextOf_76 ?_
        refine lv_icmp_ge (tgt := 104) cx.1 cx.2.1 dX12_contextOf_77 (by decide) (fun c77 => ?_) (fun c77 => ?_)
        · have h := md_ip c77 h
          obtain rfl := Option.some.inj h
          exact K _ _ _ hw (lv_sub hl [0, 1, 2, 3] rfl)
        · have h := md_in c77 h
          refine lv_aload_n cx.1 cx.2.1 dX12_contextOf_80 rfl (lv_at hl 0 rfl) ?_
          refine lv_aload_n cx.1 cx.2.1 dX12_contextOf_81 rfl (lv_at hl 0 rfl) ?_
          refine md_gR (k := 132) cx hw hin12c (by decide) (by decide) (List.mem_cons_of_mem _ mm_525) dX12_contextOf_82 ?_
          refine lv_bipush (v := 16) cx.1 cx.2.1 dX12_contextOf_85 (by decide) ?_
          refine lv_iload_n cx.1 cx.2.1 dX12_contextOf_87 rfl (lv_at hl 1 rfl) ?_
          refine lv_imul cx.1 cx.2.1 dX12_contextOf_88 ?_
          refine lv_iload cx.1 cx.2.1 dX12_contextOf_89 (lv_at hl 4 rfl) ?_
          refine lv_iadd cx.1 cx.2.1 dX12_contextOf_91 ?_
          obtain ⟨v3, e_v3, h⟩ := md_ob h
          refine md_lI (k := 132) hj cx hw (by decide) rfl rfl rfl e_v3 dX12_contextOf_92 ?_
          refine lv_iload_n cx.1 cx.2.1 dX12_contextOf_93 rfl (lv_at hl 2 rfl) ?_
          refine lv_ior cx.1 cx.2.1 dX12_contextOf_94 ?_
          obtain ⟨p4, e_p4, h⟩ := md_ob h
          refine hp_callVv (As := [.int (v3 ||| l3)]) (rest := []) cx hw (km_X12_addProduct l D cA E _ ad hj hE n σ ((v3 ||| l3)) p4 e_p4) (cwV 1 cx.2.2.2.2.2.1 (md_giV mm_526 mm_527 mm_528 mm_5 mm_529) rfl rfl rfl hd_X12_addProduct ⟨Nat.le_of_ble_eq_true rfl, Nat.le_of_ble_eq_true rfl⟩) md_at0 rfl rfl hl.1 rfl (Nat.le_of_ble_eq_true rfl) dX12_contextOf_95 ⟨Nat.le_refl _, Nat.le_refl _⟩ (fun u H locs hp hw => ?_)
          obtain rfl := hp
          refine lv_iinc (v := (l5 + 1)) (lv' := [(5, .int (l5 + 1)), (0, .ref (ad 137)), (2, .int l2), (3, .int l3), (4, .int l4)]) cx.1 cx.2.1 dX12_contextOf_98 hl (k := 4) rfl rfl (by decide) rfl (fun ls hl => ?_)
          refine lv_goto (tgt := 69) cx.1 cx.2.1 dX12_contextOf_101 (by decide) ?_
          exact ih p4.2 l2 l3 l4 ((l5 + 1)) q _ _ _ h hw (lv_sub hl [1, 2, 3, 4, 0] rfl) K
    obtain ⟨q5, e_q5, h⟩ := md_ob h
    refine L69 n σ l2 l3 t0 0 q5 _ _ _ e_q5 hw (lv_sub hl [2, 3, 4, 1, 0] rfl) (fun H locs ls hw hl => ?_)
    refine lv_iload cx.1 cx.2.1 dX12_contextOf_104 (lv_at hl 3 rfl) ?_
    refine lv_if_eq (tgt := 187) cx.1 cx.2.1 dX12_contextOf_106 (by decide) (fun c106 => ?_) (fun c106 => ?_)
    · have h := md_ip c106 h
      exact J187 q5.1 _ _ _ h hw (lv_sub hl [0] rfl)
    · have h := md_in c106 h
      refine lv_iconst (v := 0) cx.1 cx.2.1 dX12_contextOf_109 (by decide) ?_
      refine lv_istore (lv' := [(5, .int 0), (0, .ref (ad 137)), (2, .int l2), (3, .int l3), (4, .int t0)]) cx.1 cx.2.1 dX12_contextOf_110 hl (by decide) rfl (fun ls hl => ?_)
      refine lv_iconst (v := 0) cx.1 cx.2.1 dX12_contextOf_112 (by decide) ?_
      refine lv_istore (lv' := [(6, .int 0), (5, .int 0), (0, .ref (ad 137)), (2, .int l2), (3, .int l3), (4, .int t0)]) cx.1 cx.2.1 dX12_contextOf_113 hl (by decide) rfl (fun ls hl => ?_)
      have L115 : ∀ (j : Nat) (σ : md_S) (l2 : Int32) (l3 : Int32) (l4 : Int32) (l5 : Int32) (l6 : Int32) (q : (md_S × Int32 × Int32)) (H : Heap) (locs : List Loc) (ls : Array Slot), f_X12_contextOf_L115 n l2 l3 l4 j σ l5 l6 = some q → hp_w D vwCl (hp_Tl cA) E (hp_A (md_pic cA ad σ0) sz) ss H locs (md_pic cA ad σ) → lv_has ls 7 [(0, .ref (ad 137)), (2, .int l2), (3, .int l3), (4, .int l4), (5, .int l5), (6, .int l6)] → (∀ (H : Heap) (locs : List Loc) (ls : Array Slot), hp_w D vwCl (hp_Tl cA) E (hp_A (md_pic cA ad σ0) sz) ss H locs (md_pic cA ad q.1) → lv_has ls 7 [(0, .ref (ad 137)), (3, .int l3), (4, .int l4), (5, .int q.2.1)] → W pp l ee ({ frames := 1, cells := 0, slots := 0, locals := 23 }) ss mm [.ref (ad 137), .int a1, .int a2].toArray bb mt cd H locs 0 0 (MQ bb (hp_Qi D vwCl (hp_Tl cA) sz (md_pic cA ad σ0) (fun r u => r = p.1 ∧ u = md_pic cA ad p.2)) [.ref (ad 137), .int a1, .int a2].toArray ss 0 0 (hp_A (md_pic cA ad σ0) sz)) (F0 mm 174 ls [])) → W pp l ee ({ frames := 1, cells := 0, slots := 0, locals := 23 }) ss mm [.ref (ad 137), .int a1, .int a2].toArray bb mt cd H locs 0 0 (MQ bb (hp_Qi D vwCl (hp_Tl cA) sz (md_pic cA ad σ0) (fun r u => r = p.1 ∧ u = md_pic cA ad p.2)) [.ref (ad 137), .int a1, .int a2].toArray ss 0 0 (hp_A (md_pic cA ad σ0) sz)) (F0 mm 115 ls []) := by
        intro j
        induction j with
        | zero => intro σ l2 l3 l4 l5 l6 q H locs ls h; exact nomatch h
        | succ j ih =>
          intro σ l2 l3 l4 l5 l6 q H locs ls h hw hl K
          have J166 : ∀ (σ : md_S) (l6 : Int32) (t0 : Int32) (H : Heap) (locs : List Loc) (ls : Array Slot), f_X12_contextOf_J166 n l2 l3 l4 (f_X12_contextOf_L115 n l2 l3 l4 j) σ l6 t0 = some q → hp_w D vwCl (hp_Tl cA) E (hp_A (md_pic cA ad σ0) sz) ss H locs (md_pic cA ad σ) → lv_has ls 7 [(0, .ref (ad 137)), (2, .int l2), (3, .int l3), (4, .int l4), (6, .int l6)] → W pp l ee ({ frames := 1, cells := 0, slots := 0, locals := 23 }) ss mm [.ref (ad 137), .int a1, .int a2].toArray bb mt cd H locs 0 0 (MQ bb (hp_Qi D vwCl (hp_Tl cA) sz (md_pic cA ad σ0) (fun r u => r = p.1 ∧ u = md_pic cA ad p.2)) [.ref (ad 137), .int a1, .int a2].toArray ss 0 0 (hp_A (md_pic cA ad σ0) sz)) (F0 mm 166 ls [.int t0]) := by
            intro σ l6 t0 H locs ls h hw hl
            refine lv_istore (lv' := [(5, .int t0), (0, .ref (ad 137)), (2, .int l2), (3, .int l3), (4, .int l4), (6, .int l6)]) cx.1 cx.2.1 dX12_contextOf_166 hl (by decide) rfl (fun ls hl => ?_)
            refine lv_iinc (v := (l6 + 1)) (lv' := [(6, .int (l6 + 1)), (5, .int t0), (0, .ref (ad 137)), (2, .int l2), (3, .int l3), (4, .int l4)]) cx.1 cx.2.1 dX12_contextOf_168 hl (k := 5) rfl rfl (by decide) rfl (fun ls hl => ?_)
            refine lv_goto (tgt := 115) cx.1 cx.2.1 dX12_contextOf_171 (by decide) ?_
            exact ih σ l2 l3 l4 t0 ((l6 + 1)) q _ _ _ h hw (lv_sub hl [2, 3, 4, 5, 1, 0] rfl) K
          have J161 : ∀ (σ : md_S) (l6 : Int32) (H : Heap) (locs : List Loc) (ls : Array Slot), f_X12_contextOf_J161 n l2 l3 l4 (f_X12_contextOf_L115 n l2 l3 l4 j) σ l6 = some q → hp_w D vwCl (hp_Tl cA) E (hp_A (md_pic cA ad σ0) sz) ss H locs (md_pic cA ad σ) → lv_has ls 7 [(0, .ref (ad 137)), (2, .int l2), (3, .int l3), (4, .int l4), (6, .int l6)] → W pp l ee ({ frames := 1, cells := 0, slots := 0, locals := 23 }) ss mm [.ref (ad 137), .int a1, .int a2].toArray bb mt cd H locs 0 0 (MQ bb (hp_Qi D vwCl (hp_Tl cA) sz (md_pic cA ad σ0) (fun r u => r = p.1 ∧ u = md_pic cA ad p.2)) [.ref (ad 137), .int a1, .int a2].toArray ss 0 0 (hp_A (md_pic cA ad σ0) sz)) (F0 mm 161 ls []) := by
            intro σ l6 H locs ls h hw hl
            refine lv_iconst (v := 1) cx.1 cx.2.1 dX12_contextOf_161 (by decide) ?_
            refine lv_goto (tgt := 166) cx.1 cx.2.1 dX12_contextOf_162 (by decide) ?_
            exact J166 σ l6 1 _ _ _ h hw (lv_sub hl [0, 1, 2, 3, 4] rfl)
          refine lv_iload cx.1 cx.2.1 dX12_contextOf_115 (lv_at hl 5 rfl) ?_
          refine lv_aload_n cx.1 cx.2.1 dX12_contextOf_117 rfl (lv_at hl 0 rfl) ?_
          refine md_gR (k := 131) cx hw hin12c (by decide) (by decide) (List.mem_cons_of_mem _ mm_524) dX12_contextOf_118 ?_
          refine lv_iload_n cx.1 cx.2.1 dX12_contextOf_121 rfl (lv_at hl 1 rfl) ?_
          obtain ⟨v6, e_v6, h⟩ := md_ob h
          refine md_lI (k := 131) hj cx hw (by decide) rfl rfl rfl e_v6 dX12_contextOf_122 ?_
          refine lv_icmp_ge (tgt := 174) cx.1 cx.2.1 dX12_contextOf_123 (by decide) (fun c123 => ?_) (fun c123 => ?_)
          · have h := md_ip c123 h
            obtain rfl := Option.some.inj h
            exact K _ _ _ hw (lv_sub hl [0, 2, 3, 4] rfl)
          · have h := md_in c123 h
            refine lv_iload cx.1 cx.2.1 dX12_contextOf_126 (lv_at hl 4 rfl) ?_
            refine lv_if_ne (tgt := 161) cx.1 cx.2.1 dX12_contextOf_128 (by decide) (fun c128 => ?_) (fun c128 => ?_)
            · have h := md_in c128 h
              exact J161 σ l6 _ _ _ h hw (lv_sub hl [0, 1, 2, 3, 5] rfl)
            · have h := md_ip c128 h
              refine lv_aload_n cx.1 cx.2.1 dX12_contextOf_131 rfl (lv_at hl 0 rfl) ?_
              refine md_gR (k := 132) cx hw hin12c (by decide) (by decide) (List.mem_cons_of_mem _ mm_525) dX12_contextOf_132 ?_
              refine lv_bipush (v := 16) cx.1 cx.2.1 dX12_contextOf_135 (by decide) ?_
              refine lv_iload_n cx.1 cx.2.1 dX12_contextOf_137 rfl (lv_at hl 1 rfl) ?_
              refine lv_imul cx.1 cx.2.1 dX12_contextOf_138 ?_
              refine lv_iload cx.1 cx.2.1 dX12_contextOf_139 (lv_at hl 5 rfl) ?_
              refine lv_iadd cx.1 cx.2.1 dX12_contextOf_141 ?_
              obtain ⟨v7, e_v7, h⟩ := md_ob h
              refine md_lI (k := 132) hj cx hw (by decide) rfl rfl rfl e_v7 dX12_contextOf_142 ?_
              refine lv_iload cx.1 cx.2.1 dX12_contextOf_143 (lv_at hl 3 rfl) ?_
              refine lv_iand cx.1 cx.2.1 dX12_contextOf_145 ?_
              refine lv_aload_n cx.1 cx.2.1 dX12_contextOf_146 rfl (lv_at hl 0 rfl) ?_
              refine md_gR (k := 132) cx hw hin12c (by decide) (by decide) (List.mem_cons_of_mem _ mm_525) dX12_contextOf_147 ?_
              refine lv_bipush (v := 16) cx.1 cx.2.1 dX12_contextOf_150 (by decide) ?_
              refine lv_iload_n cx.1 cx.2.1 dX12_contextOf_152 rfl (lv_at hl 1 rfl) ?_
              refine lv_imul cx.1 cx.2.1 dX12_contextOf_153 ?_
              refine lv_iload cx.1 cx.2.1 dX12_contextOf_154 (lv_at hl 5 rfl) ?_
              refine lv_iadd cx.1 cx.2.1 dX12_contextOf_156 ?_
              obtain ⟨v8, e_v8, h⟩ := md_ob h
              refine md_lI (k := 132) hj cx hw (by decide) rfl rfl rfl e_v8 dX12_contextOf_157 ?_
              refine lv_icmp_ne (tgt := 165) cx.1 cx.2.1 dX12_contextOf_158 (by decide) (fun c158 => ?_) (fun c158 => ?_)
              · have h := md_in c158 h
                refine lv_iconst (v := 0) cx.1 cx.2.1 dX12_contextOf_165 (by decide) ?_
                exact J166 σ l6 0 _ _ _ h hw (lv_sub hl [0, 1, 2, 3, 5] rfl)
              · have h := md_ip c158 h
                exact J161 σ l6 _ _ _ h hw (lv_sub hl [0, 1, 2, 3, 5] rfl)
      obtain ⟨q9, e_q9, h⟩ := md_ob h
      refine L115 n q5.1 l2 l3 t0 0 0 q9 _ _ _ e_q9 hw (lv_sub hl [2, 3, 4, 5, 1, 0] rfl) (fun H locs ls hw hl => ?_)
      refine lv_iload cx.1 cx.2.1 dX12_contextOf_174 (lv_at hl 3 rfl) ?_
      refine lv_if_ne (tgt := 187) cx.1 cx.2.1 dX12_contextOf_176 (by decide) (fun c176 => ?_) (fun c176 => ?_)
      · have h := md_in c176 h
        exact J187 q9.1 _ _ _ h hw (lv_sub hl [0] rfl)
      · have h := md_ip c176 h
        refine lv_aload_n cx.1 cx.2.1 dX12_contextOf_179 rfl (lv_at hl 0 rfl) ?_
        refine lv_iload cx.1 cx.2.1 dX12_contextOf_180 (lv_at hl 2 rfl) ?_
        refine lv_iload_n cx.1 cx.2.1 dX12_contextOf_182 rfl (lv_at hl 1 rfl) ?_
        refine lv_ior cx.1 cx.2.1 dX12_contextOf_183 ?_
        obtain ⟨p10, e_p10, h⟩ := md_ob h
        refine hp_callVv (As := [.int (t0 ||| l3)]) (rest := []) cx hw (km_X12_addProduct l D cA E _ ad hj hE n q9.1 ((t0 ||| l3)) p10 e_p10) (cwV 1 cx.2.2.2.2.2.1 (md_giV mm_526 mm_527 mm_528 mm_5 mm_529) rfl rfl rfl hd_X12_addProduct ⟨Nat.le_of_ble_eq_true rfl, Nat.le_of_ble_eq_true rfl⟩) md_at0 rfl rfl hl.1 rfl (Nat.le_of_ble_eq_true rfl) dX12_contextOf_184 ⟨Nat.le_refl _, Nat.le_refl _⟩ (fun u H locs hp hw => ?_)
        obtain rfl := hp
        exact J187 p10.2 _ _ _ h hw (lv_sub hl [0] rfl)
  refine lv_iconst (v := 1) cx.1 cx.2.1 dX12_contextOf_0 (by decide) ?_
  refine lv_aload_n cx.1 cx.2.1 dX12_contextOf_1 rfl (lv_at hl 0 rfl) ?_
  refine md_gR (k := 32) cx hw hin12c (by decide) (by decide) (List.mem_cons_of_mem _ mm_138) dX12_contextOf_2 ?_
  refine lv_aload_n cx.1 cx.2.1 dX12_contextOf_5 rfl (lv_at hl 0 rfl) ?_
  refine md_gR (k := 37) cx hw hin12c (by decide) (by decide) (List.mem_cons_of_mem _ mm_243) dX12_contextOf_6 ?_
  refine lv_iload_n cx.1 cx.2.1 dX12_contextOf_9 rfl (lv_at hl 1 rfl) ?_
  obtain ⟨v11, e_v11, h⟩ := md_ob h
  refine md_lI (k := 37) hj cx hw (by decide) rfl rfl rfl e_v11 dX12_contextOf_10 ?_
  obtain ⟨v12, e_v12, h⟩ := md_ob h
  refine md_lI (k := 32) hj cx hw (by decide) rfl rfl rfl e_v12 dX12_contextOf_11 ?_
  refine lv_ishl cx.1 cx.2.1 dX12_contextOf_12 ?_
  refine lv_istore_n (lv' := [(3, .int ((1 : Int32) <<< (v12 &&& 31))), (0, .ref (ad 137)), (1, .int a1), (2, .int a2)]) cx.1 cx.2.1 dX12_contextOf_13 rfl hl (by decide) rfl (fun ls hl => ?_)
  refine lv_aload_n cx.1 cx.2.1 dX12_contextOf_14 rfl (lv_at hl 1 rfl) ?_
  refine lv_iconst (v := 0) cx.1 cx.2.1 dX12_contextOf_15 (by decide) ?_
  obtain ⟨σ13, e_σ13, h⟩ := md_ob h
  refine md_pI (k := 134) cx hw hin12c rfl (by decide) rfl (List.mem_cons_of_mem _ mm_521) rfl e_σ13 dX12_contextOf_16 (fun H locs hw => ?_)
  refine lv_aload_n cx.1 cx.2.1 dX12_contextOf_19 rfl (lv_at hl 1 rfl) ?_
  refine md_gR (k := 36) cx hw hin12c (by decide) (by decide) (List.mem_cons_of_mem _ mm_139) dX12_contextOf_20 ?_
  refine lv_iload_n cx.1 cx.2.1 dX12_contextOf_23 rfl (lv_at hl 2 rfl) ?_
  obtain ⟨v14, e_v14, h⟩ := md_ob h
  refine md_lI (k := 36) hj cx hw (by decide) rfl rfl rfl e_v14 dX12_contextOf_24 ?_
  refine lv_iconst (v := 2) cx.1 cx.2.1 dX12_contextOf_25 (by decide) ?_
  refine lv_icmp_ne (tgt := 39) cx.1 cx.2.1 dX12_contextOf_26 (by decide) (fun c26 => ?_) (fun c26 => ?_)
  · have h := md_in c26 h
    refine lv_aload_n cx.1 cx.2.1 dX12_contextOf_39 rfl (lv_at hl 1 rfl) ?_
    refine md_gR (k := 36) cx hw hin12c (by decide) (by decide) (List.mem_cons_of_mem _ mm_139) dX12_contextOf_40 ?_
    refine lv_iload_n cx.1 cx.2.1 dX12_contextOf_43 rfl (lv_at hl 2 rfl) ?_
    obtain ⟨v15, e_v15, h⟩ := md_ob h
    refine md_lI (k := 36) hj cx hw (by decide) rfl rfl rfl e_v15 dX12_contextOf_44 ?_
    refine lv_iconst (v := 3) cx.1 cx.2.1 dX12_contextOf_45 (by decide) ?_
    refine lv_icmp_ne (tgt := 63) cx.1 cx.2.1 dX12_contextOf_46 (by decide) (fun c46 => ?_) (fun c46 => ?_)
    · have h := md_in c46 h
      refine lv_iconst (v := 0) cx.1 cx.2.1 dX12_contextOf_63 (by decide) ?_
      exact J64 σ13 a2 (((1 : Int32) <<< (v12 &&& 31))) 0 _ _ _ h hw (lv_sub hl [1, 3, 0] rfl)
    · have h := md_ip c46 h
      refine lv_iconst (v := 1) cx.1 cx.2.1 dX12_contextOf_49 (by decide) ?_
      refine lv_bipush (v := 8) cx.1 cx.2.1 dX12_contextOf_50 (by decide) ?_
      refine lv_aload_n cx.1 cx.2.1 dX12_contextOf_52 rfl (lv_at hl 1 rfl) ?_
      refine md_gR (k := 42) cx hw hin12c (by decide) (by decide) (List.mem_cons_of_mem _ mm_247) dX12_contextOf_53 ?_
      refine lv_iload_n cx.1 cx.2.1 dX12_contextOf_56 rfl (lv_at hl 2 rfl) ?_
      obtain ⟨v16, e_v16, h⟩ := md_ob h
      refine md_lI (k := 42) hj cx hw (by decide) rfl rfl rfl e_v16 dX12_contextOf_57 ?_
      refine lv_iadd cx.1 cx.2.1 dX12_contextOf_58 ?_
      refine lv_ishl cx.1 cx.2.1 dX12_contextOf_59 ?_
      refine lv_goto (tgt := 64) cx.1 cx.2.1 dX12_contextOf_60 (by decide) ?_
      exact J64 σ13 a2 (((1 : Int32) <<< (v12 &&& 31))) (((1 : Int32) <<< (((8 : Int32) + v16) &&& 31))) _ _ _ h hw (lv_sub hl [1, 3, 0] rfl)
  · have h := md_ip c26 h
    refine lv_aload_n cx.1 cx.2.1 dX12_contextOf_29 rfl (lv_at hl 1 rfl) ?_
    refine lv_iload_n cx.1 cx.2.1 dX12_contextOf_30 rfl (lv_at hl 0 rfl) ?_
    obtain ⟨p17, e_p17, h⟩ := md_ob h
    refine hp_callVv (As := [.int ((1 : Int32) <<< (v12 &&& 31))]) (rest := []) cx hw (km_X12_addProduct l D cA E _ ad hj hE n σ13 (((1 : Int32) <<< (v12 &&& 31))) p17 e_p17) (cwV 1 cx.2.2.2.2.2.1 (md_giV mm_526 mm_527 mm_528 mm_5 mm_529) rfl rfl rfl hd_X12_addProduct ⟨Nat.le_of_ble_eq_true rfl, Nat.le_of_ble_eq_true rfl⟩) md_at0 rfl rfl hl.1 rfl (Nat.le_of_ble_eq_true rfl) dX12_contextOf_31 ⟨Nat.le_refl _, Nat.le_refl _⟩ (fun u H locs hp hw => ?_)
    obtain rfl := hp
    refine lv_aload_n cx.1 cx.2.1 dX12_contextOf_34 rfl (lv_at hl 1 rfl) ?_
    obtain ⟨p18, e_p18, h⟩ := md_ob h
    refine hp_callVi (As := []) (rest := []) cx hw (km_X12_keepMade l D cA E _ ad hj hE n p17.2  p18 e_p18) (cwV 0 cx.2.2.2.2.2.1 (md_giV mm_530 mm_531 mm_532 mm_5 mm_533) rfl rfl rfl hd_X12_keepMade ⟨Nat.le_of_ble_eq_true rfl, Nat.le_of_ble_eq_true rfl⟩) md_at0 rfl rfl hl.1 rfl (Nat.le_of_ble_eq_true rfl) dX12_contextOf_35 ⟨Nat.le_refl _, Nat.le_refl _⟩ (fun r u H locs hp hw => ?_)
    obtain ⟨rfl, rfl⟩ := hp
    exact hp_iret cx hw (md_ret h) dX12_contextOf_38
set_option maxHeartbeats 4000000 in
set_option maxRecDepth 100000 in
theorem km_X12_isGrantedBy (l : Launch) (D : va_G) (cA : Nat → ClassId) (E : hp_N) (sz : Nat) (ad : Nat → Nat) (hj : md_inj ad) (hE : md_E E) (n : Nat) (σ0 : md_S) (a1 : Int32) (a2 : Int32) (p : (Int32 × md_S)) (h : f_X12_isGrantedBy n σ0 a1 a2 = some p) : Met l yX12_isGrantedBy (Cond.code yX12_isGrantedBy cX12_isGrantedBy 4 (some .boolean) :: v_MOD) ({ frames := 0, cells := 0, slots := 0, locals := 0 }) (hp_Pc D vwCl (hp_Tl cA) E sz (md_pic cA ad σ0) [.ref (ad 137), .int a1, .int a2]) (hp_Qi D vwCl (hp_Tl cA) sz (md_pic cA ad σ0) (fun r u => r = p.1 ∧ u = md_pic cA ad p.2)) 0 0 (hp_A (md_pic cA ad σ0) sz) := by
  refine hp_ofW (cc := cX12_isGrantedBy) (maxL := 4) (ret := (some .boolean)) (by decide) rfl (Nat.le_of_ble_eq_true rfl) ?_
  intro pp ee ss mm bb mt cd ls cx hsz hw hl
  have hl : lv_has ls 4 [(0, .ref (ad 137)), (1, .int a1), (2, .int a2)] := hl
  refine lv_iconst (v := 0) cx.1 cx.2.1 dX12_isGrantedBy_0 (by decide) ?_
  refine lv_istore_n (lv' := [(3, .int 0), (0, .ref (ad 137)), (1, .int a1), (2, .int a2)]) cx.1 cx.2.1 dX12_isGrantedBy_1 rfl hl (by decide) rfl (fun ls hl => ?_)
  have L2 : ∀ (j : Nat) (σ : md_S) (l1 : Int32) (l2 : Int32) (l3 : Int32) (q : ((Int32 × md_S) ⊕ (md_S × Int32))) (H : Heap) (locs : List Loc) (ls : Array Slot), f_X12_isGrantedBy_L2 n l1 l2 j σ l3 = some q → hp_w D vwCl (hp_Tl cA) E (hp_A (md_pic cA ad σ0) sz) ss H locs (md_pic cA ad σ) → lv_has ls 4 [(0, .ref (ad 137)), (1, .int l1), (2, .int l2), (3, .int l3)] → (∀ t, q = Sum.inr t → ∀ (H : Heap) (locs : List Loc) (ls : Array Slot), hp_w D vwCl (hp_Tl cA) E (hp_A (md_pic cA ad σ0) sz) ss H locs (md_pic cA ad t.1) → lv_has ls 4 [] → W pp l ee ({ frames := 0, cells := 0, slots := 0, locals := 0 }) ss mm [.ref (ad 137), .int a1, .int a2].toArray bb mt cd H locs 0 0 (MQ bb (hp_Qi D vwCl (hp_Tl cA) sz (md_pic cA ad σ0) (fun r u => r = p.1 ∧ u = md_pic cA ad p.2)) [.ref (ad 137), .int a1, .int a2].toArray ss 0 0 (hp_A (md_pic cA ad σ0) sz)) (F0 mm 38 ls [])) → (∀ r, q = Sum.inl r → r = p) → W pp l ee ({ frames := 0, cells := 0, slots := 0, locals := 0 }) ss mm [.ref (ad 137), .int a1, .int a2].toArray bb mt cd H locs 0 0 (MQ bb (hp_Qi D vwCl (hp_Tl cA) sz (md_pic cA ad σ0) (fun r u => r = p.1 ∧ u = md_pic cA ad p.2)) [.ref (ad 137), .int a1, .int a2].toArray ss 0 0 (hp_A (md_pic cA ad σ0) sz)) (F0 mm 2 ls []) := by
    intro j
    induction j with
    | zero => intro σ l1 l2 l3 q H locs ls h; exact nomatch h
    | succ j ih =>
      intro σ l1 l2 l3 q H locs ls h hw hl K KR
      refine lv_iload_n cx.1 cx.2.1 dX12_isGrantedBy_2 rfl (lv_at hl 3 rfl) ?_
      refine lv_aload_n cx.1 cx.2.1 dX12_isGrantedBy_3 rfl (lv_at hl 0 rfl) ?_
      refine md_gR (k := 131) cx hw hin12c (by decide) (by decide) (List.mem_cons_of_mem _ mm_524) dX12_isGrantedBy_4 ?_
      refine lv_iload_n cx.1 cx.2.1 dX12_isGrantedBy_7 rfl (lv_at hl 1 rfl) ?_
      obtain ⟨v1, e_v1, h⟩ := md_ob h
      refine md_lI (k := 131) hj cx hw (by decide) rfl rfl rfl e_v1 dX12_isGrantedBy_8 ?_
      refine lv_icmp_ge (tgt := 38) cx.1 cx.2.1 dX12_isGrantedBy_9 (by decide) (fun c9 => ?_) (fun c9 => ?_)
      · have h := md_ip c9 h
        exact K _ (Option.some.inj h).symm _ _ _ hw (lv_sub hl [] rfl)
      · have h := md_in c9 h
        refine lv_aload_n cx.1 cx.2.1 dX12_isGrantedBy_12 rfl (lv_at hl 0 rfl) ?_
        refine md_gR (k := 132) cx hw hin12c (by decide) (by decide) (List.mem_cons_of_mem _ mm_525) dX12_isGrantedBy_13 ?_
        refine lv_bipush (v := 16) cx.1 cx.2.1 dX12_isGrantedBy_16 (by decide) ?_
        refine lv_iload_n cx.1 cx.2.1 dX12_isGrantedBy_18 rfl (lv_at hl 1 rfl) ?_
        refine lv_imul cx.1 cx.2.1 dX12_isGrantedBy_19 ?_
        refine lv_iload_n cx.1 cx.2.1 dX12_isGrantedBy_20 rfl (lv_at hl 3 rfl) ?_
        refine lv_iadd cx.1 cx.2.1 dX12_isGrantedBy_21 ?_
        obtain ⟨v2, e_v2, h⟩ := md_ob h
        refine md_lI (k := 132) hj cx hw (by decide) rfl rfl rfl e_v2 dX12_isGrantedBy_22 ?_
        refine lv_iload_n cx.1 cx.2.1 dX12_isGrantedBy_23 rfl (lv_at hl 2 rfl) ?_
        refine lv_iconst (v := (-1)) cx.1 cx.2.1 dX12_isGrantedBy_24 (by decide) ?_
        refine lv_ixor cx.1 cx.2.1 dX12_isGrantedBy_25 ?_
        refine lv_iand cx.1 cx.2.1 dX12_isGrantedBy_26 ?_
        refine lv_if_ne (tgt := 32) cx.1 cx.2.1 dX12_isGrantedBy_27 (by decide) (fun c27 => ?_) (fun c27 => ?_)
        · have h := md_in c27 h
          refine lv_iinc (v := (l3 + 1)) (lv' := [(3, .int (l3 + 1)), (0, .ref (ad 137)), (1, .int l1), (2, .int l2)]) cx.1 cx.2.1 dX12_isGrantedBy_32 hl (k := 3) rfl rfl (by decide) rfl (fun ls hl => ?_)
          refine lv_goto (tgt := 2) cx.1 cx.2.1 dX12_isGrantedBy_35 (by decide) ?_
          exact ih σ l1 l2 ((l3 + 1)) q _ _ _ h hw (lv_sub hl [1, 2, 3, 0] rfl) K KR
        · have h := md_ip c27 h
          refine lv_iconst (v := 1) cx.1 cx.2.1 dX12_isGrantedBy_30 (by decide) ?_
          exact hp_zret cx hw (md_ret (congrArg some (KR _ (Option.some.inj h).symm))) (by decide) dX12_isGrantedBy_31
  obtain ⟨q3, e_q3, h⟩ := md_ob h
  refine L2 n σ0 a1 a2 0 q3 _ _ _ e_q3 hw (lv_sub hl [1, 2, 3, 0] rfl) (fun t3 hq3 H locs ls hw hl => ?_) (fun r hr => by subst hr; exact Option.some.inj h)
  subst hq3
  have h := md_inr h
  refine lv_iconst (v := 0) cx.1 cx.2.1 dX12_isGrantedBy_38 (by decide) ?_
  exact hp_zret cx hw (md_ret h) (by decide) dX12_isGrantedBy_39
set_option maxHeartbeats 4000000 in
set_option maxRecDepth 100000 in
theorem km_X12_isGrantedIn (l : Launch) (D : va_G) (cA : Nat → ClassId) (E : hp_N) (sz : Nat) (ad : Nat → Nat) (hj : md_inj ad) (hE : md_E E) (n : Nat) (σ0 : md_S) (a1 : Int32) (a2 : Int32) (p : (Int32 × md_S)) (h : f_X12_isGrantedIn n σ0 a1 a2 = some p) : Met l yX12_isGrantedIn (Cond.code yX12_isGrantedIn cX12_isGrantedIn 5 (some .boolean) :: v_MOD) ({ frames := 0, cells := 0, slots := 0, locals := 0 }) (hp_Pc D vwCl (hp_Tl cA) E sz (md_pic cA ad σ0) [.ref (ad 137), .int a1, .int a2]) (hp_Qi D vwCl (hp_Tl cA) sz (md_pic cA ad σ0) (fun r u => r = p.1 ∧ u = md_pic cA ad p.2)) 0 0 (hp_A (md_pic cA ad σ0) sz) := by
  refine hp_ofW (cc := cX12_isGrantedIn) (maxL := 5) (ret := (some .boolean)) (by decide) rfl (Nat.le_of_ble_eq_true rfl) ?_
  intro pp ee ss mm bb mt cd ls cx hsz hw hl
  have hl : lv_has ls 5 [(0, .ref (ad 137)), (1, .int a1), (2, .int a2)] := hl
  refine lv_iload_n cx.1 cx.2.1 dX12_isGrantedIn_0 rfl (lv_at hl 1 rfl) ?_
  refine lv_istore_n (lv' := [(3, .int a1), (0, .ref (ad 137)), (1, .int a1), (2, .int a2)]) cx.1 cx.2.1 dX12_isGrantedIn_1 rfl hl (by decide) rfl (fun ls hl => ?_)
  have L2 : ∀ (j : Nat) (σ : md_S) (l2 : Int32) (l3 : Int32) (q : ((Int32 × md_S) ⊕ (md_S × Int32))) (H : Heap) (locs : List Loc) (ls : Array Slot), f_X12_isGrantedIn_L2 n l2 j σ l3 = some q → hp_w D vwCl (hp_Tl cA) E (hp_A (md_pic cA ad σ0) sz) ss H locs (md_pic cA ad σ) → lv_has ls 5 [(0, .ref (ad 137)), (2, .int l2), (3, .int l3)] → (∀ t, q = Sum.inr t → ∀ (H : Heap) (locs : List Loc) (ls : Array Slot), hp_w D vwCl (hp_Tl cA) E (hp_A (md_pic cA ad σ0) sz) ss H locs (md_pic cA ad t.1) → lv_has ls 5 [] → W pp l ee ({ frames := 0, cells := 0, slots := 0, locals := 0 }) ss mm [.ref (ad 137), .int a1, .int a2].toArray bb mt cd H locs 0 0 (MQ bb (hp_Qi D vwCl (hp_Tl cA) sz (md_pic cA ad σ0) (fun r u => r = p.1 ∧ u = md_pic cA ad p.2)) [.ref (ad 137), .int a1, .int a2].toArray ss 0 0 (hp_A (md_pic cA ad σ0) sz)) (F0 mm 118 ls [])) → (∀ r, q = Sum.inl r → r = p) → W pp l ee ({ frames := 0, cells := 0, slots := 0, locals := 0 }) ss mm [.ref (ad 137), .int a1, .int a2].toArray bb mt cd H locs 0 0 (MQ bb (hp_Qi D vwCl (hp_Tl cA) sz (md_pic cA ad σ0) (fun r u => r = p.1 ∧ u = md_pic cA ad p.2)) [.ref (ad 137), .int a1, .int a2].toArray ss 0 0 (hp_A (md_pic cA ad σ0) sz)) (F0 mm 2 ls []) := by
    intro j
    induction j with
    | zero => intro σ l2 l3 q H locs ls h; exact nomatch h
    | succ j ih =>
      intro σ l2 l3 q H locs ls h hw hl K KR
      have J114 : ∀ (σ : md_S) (t0 : Int32) (H : Heap) (locs : List Loc) (ls : Array Slot), f_X12_isGrantedIn_J114 n l2 (f_X12_isGrantedIn_L2 n l2 j) σ t0 = some q → hp_w D vwCl (hp_Tl cA) E (hp_A (md_pic cA ad σ0) sz) ss H locs (md_pic cA ad σ) → lv_has ls 5 [(0, .ref (ad 137)), (2, .int l2)] → W pp l ee ({ frames := 0, cells := 0, slots := 0, locals := 0 }) ss mm [.ref (ad 137), .int a1, .int a2].toArray bb mt cd H locs 0 0 (MQ bb (hp_Qi D vwCl (hp_Tl cA) sz (md_pic cA ad σ0) (fun r u => r = p.1 ∧ u = md_pic cA ad p.2)) [.ref (ad 137), .int a1, .int a2].toArray ss 0 0 (hp_A (md_pic cA ad σ0) sz)) (F0 mm 114 ls [.int t0]) := by
        intro σ t0 H locs ls h hw hl
        refine lv_istore_n (lv' := [(3, .int t0), (0, .ref (ad 137)), (2, .int l2)]) cx.1 cx.2.1 dX12_isGrantedIn_114 rfl hl (by decide) rfl (fun ls hl => ?_)
        refine lv_goto (tgt := 2) cx.1 cx.2.1 dX12_isGrantedIn_115 (by decide) ?_
        exact ih σ l2 t0 q _ _ _ h hw (lv_sub hl [1, 2, 0] rfl) K KR
      have J88 : ∀ (σ : md_S) (l3 : Int32) (l4 : Int32) (H : Heap) (locs : List Loc) (ls : Array Slot), f_X12_isGrantedIn_J88 n l2 (f_X12_isGrantedIn_L2 n l2 j) σ l3 l4 = some q → hp_w D vwCl (hp_Tl cA) E (hp_A (md_pic cA ad σ0) sz) ss H locs (md_pic cA ad σ) → lv_has ls 5 [(0, .ref (ad 137)), (2, .int l2), (3, .int l3), (4, .int l4)] → W pp l ee ({ frames := 0, cells := 0, slots := 0, locals := 0 }) ss mm [.ref (ad 137), .int a1, .int a2].toArray bb mt cd H locs 0 0 (MQ bb (hp_Qi D vwCl (hp_Tl cA) sz (md_pic cA ad σ0) (fun r u => r = p.1 ∧ u = md_pic cA ad p.2)) [.ref (ad 137), .int a1, .int a2].toArray ss 0 0 (hp_A (md_pic cA ad σ0) sz)) (F0 mm 88 ls []) := by
        intro σ l3 l4 H locs ls h hw hl
        refine lv_aload_n cx.1 cx.2.1 dX12_isGrantedIn_88 rfl (lv_at hl 0 rfl) ?_
        refine md_gR (k := 36) cx hw hin12c (by decide) (by decide) (List.mem_cons_of_mem _ mm_139) dX12_isGrantedIn_89 ?_
        refine lv_iload cx.1 cx.2.1 dX12_isGrantedIn_92 (lv_at hl 3 rfl) ?_
        obtain ⟨v1, e_v1, h⟩ := md_ob h
        refine md_lI (k := 36) hj cx hw (by decide) rfl rfl rfl e_v1 dX12_isGrantedIn_94 ?_
        refine lv_iconst (v := 4) cx.1 cx.2.1 dX12_isGrantedIn_95 (by decide) ?_
        refine lv_icmp_ne (tgt := 108) cx.1 cx.2.1 dX12_isGrantedIn_96 (by decide) (fun c96 => ?_) (fun c96 => ?_)
        · have h := md_in c96 h
          refine lv_aload_n cx.1 cx.2.1 dX12_isGrantedIn_108 rfl (lv_at hl 0 rfl) ?_
          refine md_gR (k := 103) cx hw hin12c (by decide) (by decide) (List.mem_cons_of_mem _ mm_536) dX12_isGrantedIn_109 ?_
          refine lv_iload_n cx.1 cx.2.1 dX12_isGrantedIn_112 rfl (lv_at hl 2 rfl) ?_
          obtain ⟨v2, e_v2, h⟩ := md_ob h
          refine md_lI (k := 103) hj cx hw (by decide) rfl rfl rfl e_v2 dX12_isGrantedIn_113 ?_
          exact J114 σ v2 _ _ _ h hw (lv_sub hl [0, 1] rfl)
        · have h := md_ip c96 h
          refine lv_aload_n cx.1 cx.2.1 dX12_isGrantedIn_99 rfl (lv_at hl 0 rfl) ?_
          refine md_gR (k := 104) cx hw hin12c (by decide) (by decide) (List.mem_cons_of_mem _ mm_537) dX12_isGrantedIn_100 ?_
          refine lv_iload_n cx.1 cx.2.1 dX12_isGrantedIn_103 rfl (lv_at hl 2 rfl) ?_
          obtain ⟨v3, e_v3, h⟩ := md_ob h
          refine md_lI (k := 104) hj cx hw (by decide) rfl rfl rfl e_v3 dX12_isGrantedIn_104 ?_
          refine lv_goto (tgt := 114) cx.1 cx.2.1 dX12_isGrantedIn_105 (by decide) ?_
          exact J114 σ v3 _ _ _ h hw (lv_sub hl [0, 1] rfl)
      refine lv_iload_n cx.1 cx.2.1 dX12_isGrantedIn_2 rfl (lv_at hl 2 rfl) ?_
      refine lv_iconst (v := (-1)) cx.1 cx.2.1 dX12_isGrantedIn_3 (by decide) ?_
      refine lv_icmp_eq (tgt := 118) cx.1 cx.2.1 dX12_isGrantedIn_4 (by decide) (fun c4 => ?_) (fun c4 => ?_)
      · have h := md_ip c4 h
        exact K _ (Option.some.inj h).symm _ _ _ hw (lv_sub hl [] rfl)
      · have h := md_in c4 h
        refine lv_aload_n cx.1 cx.2.1 dX12_isGrantedIn_7 rfl (lv_at hl 0 rfl) ?_
        refine lv_dup cx.1 cx.2.1 dX12_isGrantedIn_8 rfl ?_
        refine md_gI (k := 94) cx hw hin12c rfl (by decide) (List.mem_cons_of_mem _ mm_534) dX12_isGrantedIn_9 ?_
        refine lv_iconst (v := 1) cx.1 cx.2.1 dX12_isGrantedIn_12 (by decide) ?_
        refine lv_iadd cx.1 cx.2.1 dX12_isGrantedIn_13 ?_
        obtain ⟨σ4, e_σ4, h⟩ := md_ob h
        refine md_pI (k := 94) cx hw hin12c rfl (by decide) rfl (List.mem_cons_of_mem _ mm_534) rfl e_σ4 dX12_isGrantedIn_14 (fun H locs hw => ?_)
        refine lv_aload_n cx.1 cx.2.1 dX12_isGrantedIn_17 rfl (lv_at hl 0 rfl) ?_
        refine md_gR (k := 102) cx hw hin12c (by decide) (by decide) (List.mem_cons_of_mem _ mm_535) dX12_isGrantedIn_18 ?_
        refine lv_iload_n cx.1 cx.2.1 dX12_isGrantedIn_21 rfl (lv_at hl 2 rfl) ?_
        obtain ⟨v5, e_v5, h⟩ := md_ob h
        refine md_lI (k := 102) hj cx hw (by decide) rfl rfl rfl e_v5 dX12_isGrantedIn_22 ?_
        refine lv_istore (lv' := [(4, .int v5), (0, .ref (ad 137)), (2, .int l2), (3, .int l3)]) cx.1 cx.2.1 dX12_isGrantedIn_23 hl (by decide) rfl (fun ls hl => ?_)
        refine lv_iload_n cx.1 cx.2.1 dX12_isGrantedIn_25 rfl (lv_at hl 2 rfl) ?_
        refine lv_aload_n cx.1 cx.2.1 dX12_isGrantedIn_26 rfl (lv_at hl 1 rfl) ?_
        refine md_gR (k := 32) cx hw hin12c (by decide) (by decide) (List.mem_cons_of_mem _ mm_138) dX12_isGrantedIn_27 ?_
        refine lv_aload_n cx.1 cx.2.1 dX12_isGrantedIn_30 rfl (lv_at hl 1 rfl) ?_
        refine md_gR (k := 37) cx hw hin12c (by decide) (by decide) (List.mem_cons_of_mem _ mm_243) dX12_isGrantedIn_31 ?_
        refine lv_iload cx.1 cx.2.1 dX12_isGrantedIn_34 (lv_at hl 0 rfl) ?_
        obtain ⟨v6, e_v6, h⟩ := md_ob h
        refine md_lI (k := 37) hj cx hw (by decide) rfl rfl rfl e_v6 dX12_isGrantedIn_36 ?_
        obtain ⟨v7, e_v7, h⟩ := md_ob h
        refine md_lI (k := 32) hj cx hw (by decide) rfl rfl rfl e_v7 dX12_isGrantedIn_37 ?_
        refine lv_ishr cx.1 cx.2.1 dX12_isGrantedIn_38 ?_
        refine lv_iconst (v := 1) cx.1 cx.2.1 dX12_isGrantedIn_39 (by decide) ?_
        refine lv_iand cx.1 cx.2.1 dX12_isGrantedIn_40 ?_
        refine lv_if_ne (tgt := 46) cx.1 cx.2.1 dX12_isGrantedIn_41 (by decide) (fun c41 => ?_) (fun c41 => ?_)
        · have h := md_in c41 h
          refine lv_aload_n cx.1 cx.2.1 dX12_isGrantedIn_46 rfl (lv_at hl 1 rfl) ?_
          refine md_gR (k := 36) cx hw hin12c (by decide) (by decide) (List.mem_cons_of_mem _ mm_139) dX12_isGrantedIn_47 ?_
          refine lv_iload cx.1 cx.2.1 dX12_isGrantedIn_50 (lv_at hl 0 rfl) ?_
          obtain ⟨v8, e_v8, h⟩ := md_ob h
          refine md_lI (k := 36) hj cx hw (by decide) rfl rfl rfl e_v8 dX12_isGrantedIn_52 ?_
          refine lv_iconst (v := 2) cx.1 cx.2.1 dX12_isGrantedIn_53 (by decide) ?_
          refine lv_icmp_eq (tgt := 86) cx.1 cx.2.1 dX12_isGrantedIn_54 (by decide) (fun c54 => ?_) (fun c54 => ?_)
          · have h := md_ip c54 h
            refine lv_iconst (v := 1) cx.1 cx.2.1 dX12_isGrantedIn_86 (by decide) ?_
            exact hp_zret cx hw (md_ret (congrArg some (KR _ (Option.some.inj h).symm))) (by decide) dX12_isGrantedIn_87
          · have h := md_in c54 h
            refine lv_aload_n cx.1 cx.2.1 dX12_isGrantedIn_57 rfl (lv_at hl 1 rfl) ?_
            refine md_gR (k := 36) cx hw hin12c (by decide) (by decide) (List.mem_cons_of_mem _ mm_139) dX12_isGrantedIn_58 ?_
            refine lv_iload cx.1 cx.2.1 dX12_isGrantedIn_61 (lv_at hl 0 rfl) ?_
            obtain ⟨v9, e_v9, h⟩ := md_ob h
            refine md_lI (k := 36) hj cx hw (by decide) rfl rfl rfl e_v9 dX12_isGrantedIn_63 ?_
            refine lv_iconst (v := 3) cx.1 cx.2.1 dX12_isGrantedIn_64 (by decide) ?_
            refine lv_icmp_ne (tgt := 88) cx.1 cx.2.1 dX12_isGrantedIn_65 (by decide) (fun c65 => ?_) (fun c65 => ?_)
            · have h := md_in c65 h
              exact J88 σ4 l3 v5 _ _ _ h hw (lv_sub hl [1, 2, 3, 0] rfl)
            · have h := md_ip c65 h
              refine lv_iload_n cx.1 cx.2.1 dX12_isGrantedIn_68 rfl (lv_at hl 2 rfl) ?_
              refine lv_bipush (v := 8) cx.1 cx.2.1 dX12_isGrantedIn_69 (by decide) ?_
              refine lv_aload_n cx.1 cx.2.1 dX12_isGrantedIn_71 rfl (lv_at hl 1 rfl) ?_
              refine md_gR (k := 42) cx hw hin12c (by decide) (by decide) (List.mem_cons_of_mem _ mm_247) dX12_isGrantedIn_72 ?_
              refine lv_iload cx.1 cx.2.1 dX12_isGrantedIn_75 (lv_at hl 0 rfl) ?_
              obtain ⟨v10, e_v10, h⟩ := md_ob h
              refine md_lI (k := 42) hj cx hw (by decide) rfl rfl rfl e_v10 dX12_isGrantedIn_77 ?_
              refine lv_iadd cx.1 cx.2.1 dX12_isGrantedIn_78 ?_
              refine lv_ishr cx.1 cx.2.1 dX12_isGrantedIn_79 ?_
              refine lv_iconst (v := 1) cx.1 cx.2.1 dX12_isGrantedIn_80 (by decide) ?_
              refine lv_iand cx.1 cx.2.1 dX12_isGrantedIn_81 ?_
              refine lv_iconst (v := 1) cx.1 cx.2.1 dX12_isGrantedIn_82 (by decide) ?_
              refine lv_icmp_ne (tgt := 88) cx.1 cx.2.1 dX12_isGrantedIn_83 (by decide) (fun c83 => ?_) (fun c83 => ?_)
              · have h := md_in c83 h
                exact J88 σ4 l3 v5 _ _ _ h hw (lv_sub hl [1, 2, 3, 0] rfl)
              · have h := md_ip c83 h
                refine lv_iconst (v := 1) cx.1 cx.2.1 dX12_isGrantedIn_86 (by decide) ?_
                exact hp_zret cx hw (md_ret (congrArg some (KR _ (Option.some.inj h).symm))) (by decide) dX12_isGrantedIn_87
        · have h := md_ip c41 h
          refine lv_iconst (v := 0) cx.1 cx.2.1 dX12_isGrantedIn_44 (by decide) ?_
          exact hp_zret cx hw (md_ret (congrArg some (KR _ (Option.some.inj h).symm))) (by decide) dX12_isGrantedIn_45
  obtain ⟨q11, e_q11, h⟩ := md_ob h
  refine L2 n σ0 a2 a1 q11 _ _ _ e_q11 hw (lv_sub hl [1, 3, 0] rfl) (fun t11 hq11 H locs ls hw hl => ?_) (fun r hr => by subst hr; exact Option.some.inj h)
  subst hq11
  have h := md_inr h
  refine lv_iconst (v := 1) cx.1 cx.2.1 dX12_isGrantedIn_118 (by decide) ?_
  exact hp_zret cx hw (md_ret h) (by decide) dX12_isGrantedIn_119
set_option maxHeartbeats 4000000 in
set_option maxRecDepth 100000 in
theorem km_X12_frameAt (l : Launch) (D : va_G) (cA : Nat → ClassId) (E : hp_N) (sz : Nat) (ad : Nat → Nat) (hj : md_inj ad) (hE : md_E E) (n : Nat) (σ0 : md_S) (p : (Int32 × md_S)) (h : f_X12_frameAt n σ0 = some p) : Met l yX12_frameAt (Cond.code yX12_frameAt cX12_frameAt 1 (some .int) :: v_MOD) ({ frames := 0, cells := 0, slots := 0, locals := 0 }) (hp_Pc D vwCl (hp_Tl cA) E sz (md_pic cA ad σ0) [.ref (ad 137)]) (hp_Qi D vwCl (hp_Tl cA) sz (md_pic cA ad σ0) (fun r u => r = p.1 ∧ u = md_pic cA ad p.2)) 0 0 (hp_A (md_pic cA ad σ0) sz) := by
  refine hp_ofW (cc := cX12_frameAt) (maxL := 1) (ret := (some .int)) (by decide) rfl (Nat.le_of_ble_eq_true rfl) ?_
  intro pp ee ss mm bb mt cd ls cx hsz hw hl
  have hl : lv_has ls 1 [(0, .ref (ad 137))] := hl
  refine lv_bipush (v := 60) cx.1 cx.2.1 dX12_frameAt_0 (by decide) ?_
  refine lv_aload_n cx.1 cx.2.1 dX12_frameAt_2 rfl (lv_at hl 0 rfl) ?_
  refine md_gI (k := 127) cx hw hin12c rfl (by decide) (List.mem_cons_of_mem _ mm_538) dX12_frameAt_3 ?_
  refine lv_imul cx.1 cx.2.1 dX12_frameAt_6 ?_
  refine lv_aload_n cx.1 cx.2.1 dX12_frameAt_7 rfl (lv_at hl 0 rfl) ?_
  refine md_gR (k := 111) cx hw hin12c (by decide) (by decide) (List.mem_cons_of_mem _ mm_539) dX12_frameAt_8 ?_
  refine lv_aload_n cx.1 cx.2.1 dX12_frameAt_11 rfl (lv_at hl 0 rfl) ?_
  refine md_gI (k := 127) cx hw hin12c rfl (by decide) (List.mem_cons_of_mem _ mm_538) dX12_frameAt_12 ?_
  obtain ⟨v1, e_v1, h⟩ := md_ob h
  refine md_lI (k := 111) hj cx hw (by decide) rfl rfl rfl e_v1 dX12_frameAt_15 ?_
  refine lv_iadd cx.1 cx.2.1 dX12_frameAt_16 ?_
  refine lv_iconst (v := 1) cx.1 cx.2.1 dX12_frameAt_17 (by decide) ?_
  refine lv_isub cx.1 cx.2.1 dX12_frameAt_18 ?_
  exact hp_iret cx hw (md_ret h) dX12_frameAt_19
set_option maxHeartbeats 4000000 in
set_option maxRecDepth 100000 in
theorem km_X12_push (l : Launch) (D : va_G) (cA : Nat → ClassId) (E : hp_N) (sz : Nat) (ad : Nat → Nat) (hj : md_inj ad) (hE : md_E E) (n : Nat) (σ0 : md_S) (a1 : Int32) (a2 : Int32) (p : (Int32 × md_S)) (h : f_X12_push n σ0 a1 a2 = some p) : Met l yX12_push (Cond.code yX12_push cX12_push 4 none :: v_MOD) ({ frames := 0, cells := 0, slots := 0, locals := 0 }) (hp_Pc D vwCl (hp_Tl cA) E sz (md_pic cA ad σ0) [.ref (ad 137), .int a1, .int a2]) (hp_Qv D vwCl (hp_Tl cA) sz (md_pic cA ad σ0) (fun u => u = md_pic cA ad p.2)) 0 0 (hp_A (md_pic cA ad σ0) sz) := by
  refine hp_ofW (cc := cX12_push) (maxL := 4) (ret := none) (by decide) rfl (Nat.le_of_ble_eq_true rfl) ?_
  intro pp ee ss mm bb mt cd ls cx hsz hw hl
  have hl : lv_has ls 4 [(0, .ref (ad 137)), (1, .int a1), (2, .int a2)] := hl
  refine lv_sipush (v := 9000) cx.1 cx.2.1 dX12_push_0 (by decide) ?_
  refine lv_aload_n cx.1 cx.2.1 dX12_push_3 rfl (lv_at hl 0 rfl) ?_
  refine md_gI (k := 127) cx hw hin12c rfl (by decide) (List.mem_cons_of_mem _ mm_538) dX12_push_4 ?_
  refine lv_imul cx.1 cx.2.1 dX12_push_7 ?_
  refine lv_aload_n cx.1 cx.2.1 dX12_push_8 rfl (lv_at hl 0 rfl) ?_
  refine md_gR (k := 120) cx hw hin12c (by decide) (by decide) (List.mem_cons_of_mem _ mm_540) dX12_push_9 ?_
  refine lv_aload_n cx.1 cx.2.1 dX12_push_12 rfl (lv_at hl 0 rfl) ?_
  refine md_gI (k := 127) cx hw hin12c rfl (by decide) (List.mem_cons_of_mem _ mm_538) dX12_push_13 ?_
  obtain ⟨v1, e_v1, h⟩ := md_ob h
  refine md_lI (k := 120) hj cx hw (by decide) rfl rfl rfl e_v1 dX12_push_16 ?_
  refine lv_iadd cx.1 cx.2.1 dX12_push_17 ?_
  refine lv_istore_n (lv' := [(3, .int (((9000 : Int32) * (mI σ0 127)) + v1)), (0, .ref (ad 137)), (1, .int a1), (2, .int a2)]) cx.1 cx.2.1 dX12_push_18 rfl hl (by decide) rfl (fun ls hl => ?_)
  refine lv_aload_n cx.1 cx.2.1 dX12_push_19 rfl (lv_at hl 1 rfl) ?_
  refine md_gR (k := 121) cx hw hin12c (by decide) (by decide) (List.mem_cons_of_mem _ mm_541) dX12_push_20 ?_
  refine lv_iload_n cx.1 cx.2.1 dX12_push_23 rfl (lv_at hl 0 rfl) ?_
  refine lv_iload_n cx.1 cx.2.1 dX12_push_24 rfl (lv_at hl 2 rfl) ?_
  obtain ⟨σ2, e_σ2, h⟩ := md_ob h
  refine md_sI (k := 121) hj cx hw (by decide) rfl rfl rfl e_σ2 dX12_push_25 (fun H locs hw => ?_)
  refine lv_aload_n cx.1 cx.2.1 dX12_push_26 rfl (lv_at hl 1 rfl) ?_
  refine md_gR (k := 122) cx hw hin12c (by decide) (by decide) (List.mem_cons_of_mem _ mm_542) dX12_push_27 ?_
  refine lv_iload_n cx.1 cx.2.1 dX12_push_30 rfl (lv_at hl 0 rfl) ?_
  refine lv_iload_n cx.1 cx.2.1 dX12_push_31 rfl (lv_at hl 3 rfl) ?_
  obtain ⟨σ3, e_σ3, h⟩ := md_ob h
  refine md_sI (k := 122) hj cx hw (by decide) rfl rfl rfl e_σ3 dX12_push_32 (fun H locs hw => ?_)
  refine lv_aload_n cx.1 cx.2.1 dX12_push_33 rfl (lv_at hl 1 rfl) ?_
  refine md_gR (k := 120) cx hw hin12c (by decide) (by decide) (List.mem_cons_of_mem _ mm_540) dX12_push_34 ?_
  refine lv_aload_n cx.1 cx.2.1 dX12_push_37 rfl (lv_at hl 1 rfl) ?_
  refine md_gI (k := 127) cx hw hin12c rfl (by decide) (List.mem_cons_of_mem _ mm_538) dX12_push_38 ?_
  refine lv_dup2_11 cx.1 cx.2.1 dX12_push_41 rfl rfl ?_
  obtain ⟨v4, e_v4, h⟩ := md_ob h
  refine md_lI (k := 120) hj cx hw (by decide) rfl rfl rfl e_v4 dX12_push_42 ?_
  refine lv_iconst (v := 1) cx.1 cx.2.1 dX12_push_43 (by decide) ?_
  refine lv_iadd cx.1 cx.2.1 dX12_push_44 ?_
  obtain ⟨σ5, e_σ5, h⟩ := md_ob h
  refine md_sI (k := 120) hj cx hw (by decide) rfl rfl rfl e_σ5 dX12_push_45 (fun H locs hw => ?_)
  exact hp_vret cx hw (md_retv h) dX12_push_46
set_option maxHeartbeats 4000000 in
set_option maxRecDepth 100000 in
theorem km_X12_pop (l : Launch) (D : va_G) (cA : Nat → ClassId) (E : hp_N) (sz : Nat) (ad : Nat → Nat) (hj : md_inj ad) (hE : md_E E) (n : Nat) (σ0 : md_S) (p : (Int32 × md_S)) (h : f_X12_pop n σ0 = some p) : Met l yX12_pop (Cond.code yX12_pop cX12_pop 1 (some .int) :: v_MOD) ({ frames := 0, cells := 0, slots := 0, locals := 0 }) (hp_Pc D vwCl (hp_Tl cA) E sz (md_pic cA ad σ0) [.ref (ad 137)]) (hp_Qi D vwCl (hp_Tl cA) sz (md_pic cA ad σ0) (fun r u => r = p.1 ∧ u = md_pic cA ad p.2)) 0 0 (hp_A (md_pic cA ad σ0) sz) := by
  refine hp_ofW (cc := cX12_pop) (maxL := 1) (ret := (some .int)) (by decide) rfl (Nat.le_of_ble_eq_true rfl) ?_
  intro pp ee ss mm bb mt cd ls cx hsz hw hl
  have hl : lv_has ls 1 [(0, .ref (ad 137))] := hl
  refine lv_aload_n cx.1 cx.2.1 dX12_pop_0 rfl (lv_at hl 0 rfl) ?_
  refine md_gR (k := 120) cx hw hin12c (by decide) (by decide) (List.mem_cons_of_mem _ mm_540) dX12_pop_1 ?_
  refine lv_aload_n cx.1 cx.2.1 dX12_pop_4 rfl (lv_at hl 0 rfl) ?_
  refine md_gI (k := 127) cx hw hin12c rfl (by decide) (List.mem_cons_of_mem _ mm_538) dX12_pop_5 ?_
  refine lv_dup2_11 cx.1 cx.2.1 dX12_pop_8 rfl rfl ?_
  obtain ⟨v1, e_v1, h⟩ := md_ob h
  refine md_lI (k := 120) hj cx hw (by decide) rfl rfl rfl e_v1 dX12_pop_9 ?_
  refine lv_iconst (v := 1) cx.1 cx.2.1 dX12_pop_10 (by decide) ?_
  refine lv_isub cx.1 cx.2.1 dX12_pop_11 ?_
  obtain ⟨σ2, e_σ2, h⟩ := md_ob h
  refine md_sI (k := 120) hj cx hw (by decide) rfl rfl rfl e_σ2 dX12_pop_12 (fun H locs hw => ?_)
  refine lv_aload_n cx.1 cx.2.1 dX12_pop_13 rfl (lv_at hl 0 rfl) ?_
  refine lv_aload_n cx.1 cx.2.1 dX12_pop_14 rfl (lv_at hl 0 rfl) ?_
  refine md_gR (k := 122) cx hw hin12c (by decide) (by decide) (List.mem_cons_of_mem _ mm_542) dX12_pop_15 ?_
  refine lv_sipush (v := 9000) cx.1 cx.2.1 dX12_pop_18 (by decide) ?_
  refine lv_aload_n cx.1 cx.2.1 dX12_pop_21 rfl (lv_at hl 0 rfl) ?_
  refine md_gI (k := 127) cx hw hin12c rfl (by decide) (List.mem_cons_of_mem _ mm_538) dX12_pop_22 ?_
  refine lv_imul cx.1 cx.2.1 dX12_pop_25 ?_
  refine lv_aload_n cx.1 cx.2.1 dX12_pop_26 rfl (lv_at hl 0 rfl) ?_
  refine md_gR (k := 120) cx hw hin12c (by decide) (by decide) (List.mem_cons_of_mem _ mm_540) dX12_pop_27 ?_
  refine lv_aload_n cx.1 cx.2.1 dX12_pop_30 rfl (lv_at hl 0 rfl) ?_
  refine md_gI (k := 127) cx hw hin12c rfl (by decide) (List.mem_cons_of_mem _ mm_538) dX12_pop_31 ?_
  obtain ⟨v3, e_v3, h⟩ := md_ob h
  refine md_lI (k := 120) hj cx hw (by decide) rfl rfl rfl e_v3 dX12_pop_34 ?_
  refine lv_iadd cx.1 cx.2.1 dX12_pop_35 ?_
  obtain ⟨v4, e_v4, h⟩ := md_ob h
  refine md_lI (k := 122) hj cx hw (by decide) rfl rfl rfl e_v4 dX12_pop_36 ?_
  obtain ⟨σ5, e_σ5, h⟩ := md_ob h
  refine md_pI (k := 135) cx hw hin12c rfl (by decide) rfl (List.mem_cons_of_mem _ mm_543) rfl e_σ5 dX12_pop_37 (fun H locs hw => ?_)
  refine lv_aload_n cx.1 cx.2.1 dX12_pop_40 rfl (lv_at hl 0 rfl) ?_
  refine md_gR (k := 121) cx hw hin12c (by decide) (by decide) (List.mem_cons_of_mem _ mm_541) dX12_pop_41 ?_
  refine lv_sipush (v := 9000) cx.1 cx.2.1 dX12_pop_44 (by decide) ?_
  refine lv_aload_n cx.1 cx.2.1 dX12_pop_47 rfl (lv_at hl 0 rfl) ?_
  refine md_gI (k := 127) cx hw hin12c rfl (by decide) (List.mem_cons_of_mem _ mm_538) dX12_pop_48 ?_
  refine lv_imul cx.1 cx.2.1 dX12_pop_51 ?_
  refine lv_aload_n cx.1 cx.2.1 dX12_pop_52 rfl (lv_at hl 0 rfl) ?_
  refine md_gR (k := 120) cx hw hin12c (by decide) (by decide) (List.mem_cons_of_mem _ mm_540) dX12_pop_53 ?_
  refine lv_aload_n cx.1 cx.2.1 dX12_pop_56 rfl (lv_at hl 0 rfl) ?_
  refine md_gI (k := 127) cx hw hin12c rfl (by decide) (List.mem_cons_of_mem _ mm_538) dX12_pop_57 ?_
  obtain ⟨v6, e_v6, h⟩ := md_ob h
  refine md_lI (k := 120) hj cx hw (by decide) rfl rfl rfl e_v6 dX12_pop_60 ?_
  refine lv_iadd cx.1 cx.2.1 dX12_pop_61 ?_
  obtain ⟨v7, e_v7, h⟩ := md_ob h
  refine md_lI (k := 121) hj cx hw (by decide) rfl rfl rfl e_v7 dX12_pop_62 ?_
  exact hp_iret cx hw (md_ret h) dX12_pop_63
set_option maxHeartbeats 4000000 in
set_option maxRecDepth 100000 in
theorem km_X12_tells (l : Launch) (D : va_G) (cA : Nat → ClassId) (E : hp_N) (sz : Nat) (ad : Nat → Nat) (hj : md_inj ad) (hE : md_E E) (n : Nat) (σ0 : md_S) (a1 : Int32) (a2 : Int32) (a3 : Int32) (a4 : Int32) (p : (Int32 × md_S)) (h : f_X12_tells n σ0 a1 a2 a3 a4 = some p) : Met l yX12_tells (Cond.code yX12_tells cX12_tells 6 none :: v_MOD) ({ frames := 0, cells := 0, slots := 0, locals := 0 }) (hp_Pc D vwCl (hp_Tl cA) E sz (md_pic cA ad σ0) [.ref (ad 137), .int a1, .int a2, .int a3, .int a4]) (hp_Qv D vwCl (hp_Tl cA) sz (md_pic cA ad σ0) (fun u => u = md_pic cA ad p.2)) 0 0 (hp_A (md_pic cA ad σ0) sz) := by
  refine hp_ofW (cc := cX12_tells) (maxL := 6) (ret := none) (by decide) rfl (Nat.le_of_ble_eq_true rfl) ?_
  intro pp ee ss mm bb mt cd ls cx hsz hw hl
  have hl : lv_has ls 6 [(0, .ref (ad 137)), (1, .int a1), (2, .int a2), (3, .int a3), (4, .int a4)] := hl
  have J70 : ∀ (σ : md_S) (H : Heap) (locs : List Loc) (ls : Array Slot), f_X12_tells_J70 n σ = some p → hp_w D vwCl (hp_Tl cA) E (hp_A (md_pic cA ad σ0) sz) ss H locs (md_pic cA ad σ) → lv_has ls 6 [(0, .ref (ad 137))] → W pp l ee ({ frames := 0, cells := 0, slots := 0, locals := 0 }) ss mm [.ref (ad 137), .int a1, .int a2, .int a3, .int a4].toArray bb mt cd H locs 0 0 (MQ bb (hp_Qv D vwCl (hp_Tl cA) sz (md_pic cA ad σ0) (fun u => u = md_pic cA ad p.2)) [.ref (ad 137), .int a1, .int a2, .int a3, .int a4].toArray ss 0 0 (hp_A (md_pic cA ad σ0) sz)) (F0 mm 70 ls []) := by
    intro σ H locs ls h hw hl
    refine lv_aload_n cx.1 cx.2.1 dX12_tells_70 rfl (lv_at hl 0 rfl) ?_
    refine lv_dup cx.1 cx.2.1 dX12_tells_71 rfl ?_
    refine md_gI (k := 91) cx hw hin12c rfl (by decide) (List.mem_cons_of_mem _ mm_544) dX12_tells_72 ?_
    refine lv_iconst (v := 1) cx.1 cx.2.1 dX12_tells_75 (by decide) ?_
    refine lv_iadd cx.1 cx.2.1 dX12_tells_76 ?_
    obtain ⟨σ1, e_σ1, h⟩ := md_ob h
    refine md_pI (k := 91) cx hw hin12c rfl (by decide) rfl (List.mem_cons_of_mem _ mm_544) rfl e_σ1 dX12_tells_77 (fun H locs hw => ?_)
    exact hp_vret cx hw (md_retv h) dX12_tells_80
  refine lv_aload_n cx.1 cx.2.1 dX12_tells_0 rfl (lv_at hl 0 rfl) ?_
  refine md_gI (k := 91) cx hw hin12c rfl (by decide) (List.mem_cons_of_mem _ mm_544) dX12_tells_1 ?_
  refine lv_sipush (v := 200) cx.1 cx.2.1 dX12_tells_4 (by decide) ?_
  refine lv_icmp_ge (tgt := 70) cx.1 cx.2.1 dX12_tells_7 (by decide) (fun c7 => ?_) (fun c7 => ?_)
  · have h := md_ip c7 h
    exact J70 σ0 _ _ _ h hw (lv_sub hl [0] rfl)
  · have h := md_in c7 h
    refine lv_iconst (v := 5) cx.1 cx.2.1 dX12_tells_10 (by decide) ?_
    refine lv_aload_n cx.1 cx.2.1 dX12_tells_11 rfl (lv_at hl 0 rfl) ?_
    refine md_gI (k := 91) cx hw hin12c rfl (by decide) (List.mem_cons_of_mem _ mm_544) dX12_tells_12 ?_
    refine lv_imul cx.1 cx.2.1 dX12_tells_15 ?_
    refine lv_istore (lv' := [(5, .int ((5 : Int32) * (mI σ0 91))), (0, .ref (ad 137)), (1, .int a1), (2, .int a2), (3, .int a3), (4, .int a4)]) cx.1 cx.2.1 dX12_tells_16 hl (by decide) rfl (fun ls hl => ?_)
    refine lv_aload_n cx.1 cx.2.1 dX12_tells_18 rfl (lv_at hl 1 rfl) ?_
    refine md_gR (k := 92) cx hw hin12c (by decide) (by decide) (List.mem_cons_of_mem _ mm_545) dX12_tells_19 ?_
    refine lv_iload cx.1 cx.2.1 dX12_tells_22 (lv_at hl 0 rfl) ?_
    refine lv_aload_n cx.1 cx.2.1 dX12_tells_24 rfl (lv_at hl 1 rfl) ?_
    refine md_gI (k := 127) cx hw hin12c rfl (by decide) (List.mem_cons_of_mem _ mm_538) dX12_tells_25 ?_
    obtain ⟨σ2, e_σ2, h⟩ := md_ob h
    refine md_sI (k := 92) hj cx hw (by decide) rfl rfl rfl e_σ2 dX12_tells_28 (fun H locs hw => ?_)
    refine lv_aload_n cx.1 cx.2.1 dX12_tells_29 rfl (lv_at hl 1 rfl) ?_
    refine md_gR (k := 92) cx hw hin12c (by decide) (by decide) (List.mem_cons_of_mem _ mm_545) dX12_tells_30 ?_
    refine lv_iload cx.1 cx.2.1 dX12_tells_33 (lv_at hl 0 rfl) ?_
    refine lv_iconst (v := 1) cx.1 cx.2.1 dX12_tells_35 (by decide) ?_
    refine lv_iadd cx.1 cx.2.1 dX12_tells_36 ?_
    refine lv_iload_n cx.1 cx.2.1 dX12_tells_37 rfl (lv_at hl 2 rfl) ?_
    obtain ⟨σ3, e_σ3, h⟩ := md_ob h
    refine md_sI (k := 92) hj cx hw (by decide) rfl rfl rfl e_σ3 dX12_tells_38 (fun H locs hw => ?_)
    refine lv_aload_n cx.1 cx.2.1 dX12_tells_39 rfl (lv_at hl 1 rfl) ?_
    refine md_gR (k := 92) cx hw hin12c (by decide) (by decide) (List.mem_cons_of_mem _ mm_545) dX12_tells_40 ?_
    refine lv_iload cx.1 cx.2.1 dX12_tells_43 (lv_at hl 0 rfl) ?_
    refine lv_iconst (v := 2) cx.1 cx.2.1 dX12_tells_45 (by decide) ?_
    refine lv_iadd cx.1 cx.2.1 dX12_tells_46 ?_
    refine lv_iload_n cx.1 cx.2.1 dX12_tells_47 rfl (lv_at hl 3 rfl) ?_
    obtain ⟨σ4, e_σ4, h⟩ := md_ob h
    refine md_sI (k := 92) hj cx hw (by decide) rfl rfl rfl e_σ4 dX12_tells_48 (fun H locs hw => ?_)
    refine lv_aload_n cx.1 cx.2.1 dX12_tells_49 rfl (lv_at hl 1 rfl) ?_
    refine md_gR (k := 92) cx hw hin12c (by decide) (by decide) (List.mem_cons_of_mem _ mm_545) dX12_tells_50 ?_
    refine lv_iload cx.1 cx.2.1 dX12_tells_53 (lv_at hl 0 rfl) ?_
    refine lv_iconst (v := 3) cx.1 cx.2.1 dX12_tells_55 (by decide) ?_
    refine lv_iadd cx.1 cx.2.1 dX12_tells_56 ?_
    refine lv_iload_n cx.1 cx.2.1 dX12_tells_57 rfl (lv_at hl 4 rfl) ?_
    obtain ⟨σ5, e_σ5, h⟩ := md_ob h
    refine md_sI (k := 92) hj cx hw (by decide) rfl rfl rfl e_σ5 dX12_tells_58 (fun H locs hw => ?_)
    refine lv_aload_n cx.1 cx.2.1 dX12_tells_59 rfl (lv_at hl 1 rfl) ?_
    refine md_gR (k := 92) cx hw hin12c (by decide) (by decide) (List.mem_cons_of_mem _ mm_545) dX12_tells_60 ?_
    refine lv_iload cx.1 cx.2.1 dX12_tells_63 (lv_at hl 0 rfl) ?_
    refine lv_iconst (v := 4) cx.1 cx.2.1 dX12_tells_65 (by decide) ?_
    refine lv_iadd cx.1 cx.2.1 dX12_tells_66 ?_
    refine lv_iload cx.1 cx.2.1 dX12_tells_67 (lv_at hl 5 rfl) ?_
    obtain ⟨σ6, e_σ6, h⟩ := md_ob h
    refine md_sI (k := 92) hj cx hw (by decide) rfl rfl rfl e_σ6 dX12_tells_69 (fun H locs hw => ?_)
    exact J70 σ6 _ _ _ h hw (lv_sub hl [1] rfl)
set_option maxHeartbeats 4000000 in
set_option maxRecDepth 100000 in
theorem km_X12_failure (l : Launch) (D : va_G) (cA : Nat → ClassId) (E : hp_N) (sz : Nat) (ad : Nat → Nat) (hj : md_inj ad) (hE : md_E E) (n : Nat) (σ0 : md_S) (a1 : Int32) (p : (Int32 × md_S)) (h : f_X12_failure n σ0 a1 = some p) : Met l yX12_failure (Cond.code yX12_failure cX12_failure 3 none :: v_MOD) ({ frames := 1, cells := 0, slots := 0, locals := 25 }) (hp_Pc D vwCl (hp_Tl cA) E sz (md_pic cA ad σ0) [.ref (ad 137), .int a1]) (hp_Qv D vwCl (hp_Tl cA) sz (md_pic cA ad σ0) (fun u => u = md_pic cA ad p.2)) 0 0 (hp_A (md_pic cA ad σ0) sz) := by
  refine hp_ofW (cc := cX12_failure) (maxL := 3) (ret := none) (by decide) rfl (Nat.le_of_ble_eq_true rfl) ?_
  intro pp ee ss mm bb mt cd ls cx hsz hw hl
  have hl : lv_has ls 3 [(0, .ref (ad 137)), (1, .int a1)] := hl
  refine lv_aload_n cx.1 cx.2.1 dX12_failure_0 rfl (lv_at hl 0 rfl) ?_
  refine md_gR (k := 123) cx hw hin12c (by decide) (by decide) (List.mem_cons_of_mem _ mm_546) dX12_failure_1 ?_
  refine lv_aload_n cx.1 cx.2.1 dX12_failure_4 rfl (lv_at hl 0 rfl) ?_
  refine md_gI (k := 127) cx hw hin12c rfl (by decide) (List.mem_cons_of_mem _ mm_538) dX12_failure_5 ?_
  obtain ⟨v1, e_v1, h⟩ := md_ob h
  refine md_lI (k := 123) hj cx hw (by decide) rfl rfl rfl e_v1 dX12_failure_8 ?_
  refine lv_if_ne (tgt := 66) cx.1 cx.2.1 dX12_failure_9 (by decide) (fun c9 => ?_) (fun c9 => ?_)
  · have h := md_in c9 h
    refine lv_aload_n cx.1 cx.2.1 dX12_failure_66 rfl (lv_at hl 0 rfl) ?_
    refine md_gR (k := 123) cx hw hin12c (by decide) (by decide) (List.mem_cons_of_mem _ mm_546) dX12_failure_67 ?_
    refine lv_aload_n cx.1 cx.2.1 dX12_failure_70 rfl (lv_at hl 0 rfl) ?_
    refine md_gI (k := 127) cx hw hin12c rfl (by decide) (List.mem_cons_of_mem _ mm_538) dX12_failure_71 ?_
    refine lv_dup2_11 cx.1 cx.2.1 dX12_failure_74 rfl rfl ?_
    obtain ⟨v2, e_v2, h⟩ := md_ob h
    refine md_lI (k := 123) hj cx hw (by decide) rfl rfl rfl e_v2 dX12_failure_75 ?_
    refine lv_iconst (v := 1) cx.1 cx.2.1 dX12_failure_76 (by decide) ?_
    refine lv_isub cx.1 cx.2.1 dX12_failure_77 ?_
    obtain ⟨σ3, e_σ3, h⟩ := md_ob h
    refine md_sI (k := 123) hj cx hw (by decide) rfl rfl rfl e_σ3 dX12_failure_78 (fun H locs hw => ?_)
    refine lv_sipush (v := 1500) cx.1 cx.2.1 dX12_failure_79 (by decide) ?_
    refine lv_aload_n cx.1 cx.2.1 dX12_failure_82 rfl (lv_at hl 0 rfl) ?_
    refine md_gI (k := 127) cx hw hin12c rfl (by decide) (List.mem_cons_of_mem _ mm_538) dX12_failure_83 ?_
    refine lv_imul cx.1 cx.2.1 dX12_failure_86 ?_
    refine lv_aload_n cx.1 cx.2.1 dX12_failure_87 rfl (lv_at hl 0 rfl) ?_
    refine md_gR (k := 123) cx hw hin12c (by decide) (by decide) (List.mem_cons_of_mem _ mm_546) dX12_failure_88 ?_
    refine lv_aload_n cx.1 cx.2.1 dX12_failure_91 rfl (lv_at hl 0 rfl) ?_
    refine md_gI (k := 127) cx hw hin12c rfl (by decide) (List.mem_cons_of_mem _ mm_538) dX12_failure_92 ?_
    obtain ⟨v4, e_v4, h⟩ := md_ob h
    refine md_lI (k := 123) hj cx hw (by decide) rfl rfl rfl e_v4 dX12_failure_95 ?_
    refine lv_iadd cx.1 cx.2.1 dX12_failure_96 ?_
    refine lv_istore_n (lv' := [(2, .int (((1500 : Int32) * (mI σ3 127)) + v4)), (0, .ref (ad 137)), (1, .int a1)]) cx.1 cx.2.1 dX12_failure_97 rfl hl (by decide) rfl (fun ls hl => ?_)
    refine lv_aload_n cx.1 cx.2.1 dX12_failure_98 rfl (lv_at hl 1 rfl) ?_
    refine md_gR (k := 111) cx hw hin12c (by decide) (by decide) (List.mem_cons_of_mem _ mm_539) dX12_failure_99 ?_
    refine lv_aload_n cx.1 cx.2.1 dX12_failure_102 rfl (lv_at hl 1 rfl) ?_
    refine md_gI (k := 127) cx hw hin12c rfl (by decide) (List.mem_cons_of_mem _ mm_538) dX12_failure_103 ?_
    refine lv_aload_n cx.1 cx.2.1 dX12_failure_106 rfl (lv_at hl 1 rfl) ?_
    refine md_gR (k := 124) cx hw hin12c (by decide) (by decide) (List.mem_cons_of_mem _ mm_547) dX12_failure_107 ?_
    refine lv_iload_n cx.1 cx.2.1 dX12_failure_110 rfl (lv_at hl 0 rfl) ?_
    obtain ⟨v5, e_v5, h⟩ := md_ob h
    refine md_lI (k := 124) hj cx hw (by decide) rfl rfl rfl e_v5 dX12_failure_111 ?_
    obtain ⟨σ6, e_σ6, h⟩ := md_ob h
    refine md_sI (k := 111) hj cx hw (by decide) rfl rfl rfl e_σ6 dX12_failure_112 (fun H locs hw => ?_)
    refine lv_aload_n cx.1 cx.2.1 dX12_failure_113 rfl (lv_at hl 1 rfl) ?_
    refine md_gR (k := 120) cx hw hin12c (by decide) (by decide) (List.mem_cons_of_mem _ mm_540) dX12_failure_114 ?_
    refine lv_aload_n cx.1 cx.2.1 dX12_failure_117 rfl (lv_at hl 1 rfl) ?_
    refine md_gI (k := 127) cx hw hin12c rfl (by decide) (List.mem_cons_of_mem _ mm_538) dX12_failure_118 ?_
    refine lv_aload_n cx.1 cx.2.1 dX12_failure_121 rfl (lv_at hl 1 rfl) ?_
    refine md_gR (k := 125) cx hw hin12c (by decide) (by decide) (List.mem_cons_of_mem _ mm_548) dX12_failure_122 ?_
    refine lv_iload_n cx.1 cx.2.1 dX12_failure_125 rfl (lv_at hl 0 rfl) ?_
    obtain ⟨v7, e_v7, h⟩ := md_ob h
    refine md_lI (k := 125) hj cx hw (by decide) rfl rfl rfl e_v7 dX12_failure_126 ?_
    obtain ⟨σ8, e_σ8, h⟩ := md_ob h
    refine md_sI (k := 120) hj cx hw (by decide) rfl rfl rfl e_σ8 dX12_failure_127 (fun H locs hw => ?_)
    refine lv_aload_n cx.1 cx.2.1 dX12_failure_128 rfl (lv_at hl 1 rfl) ?_
    refine md_gR (k := 117) cx hw hin12c (by decide) (by decide) (List.mem_cons_of_mem _ mm_549) dX12_failure_129 ?_
    refine lv_aload_n cx.1 cx.2.1 dX12_failure_132 rfl (lv_at hl 1 rfl) ?_
    refine md_gI (k := 127) cx hw hin12c rfl (by decide) (List.mem_cons_of_mem _ mm_538) dX12_failure_133 ?_
    refine lv_aload_n cx.1 cx.2.1 dX12_failure_136 rfl (lv_at hl 1 rfl) ?_
    refine md_gR (k := 114) cx hw hin12c (by decide) (by decide) (List.mem_cons_of_mem _ mm_550) dX12_failure_137 ?_
    refine lv_aload_n cx.1 cx.2.1 dX12_failure_140 rfl (lv_at hl 1 rfl) ?_
    obtain ⟨p9, e_p9, h⟩ := md_ob h
    refine hp_callVi (As := []) (rest := [.ref (ad 114), .int (mI σ8 127), .ref (ad 117)]) cx hw (km_X12_frameAt l D cA E _ ad hj hE n σ8  p9 e_p9) (cwV 0 cx.2.2.2.2.2.1 (md_giV mm_551 mm_552 mm_553 mm_5 mm_554) rfl rfl rfl hd_X12_frameAt ⟨Nat.le_of_ble_eq_true rfl, Nat.le_of_ble_eq_true rfl⟩) md_at0 rfl rfl hl.1 rfl (Nat.le_of_ble_eq_true rfl) dX12_failure_141 ⟨Nat.le_refl _, Nat.le_refl _⟩ (fun r u H locs hp hw => ?_)
    obtain ⟨rfl, rfl⟩ := hp
    obtain ⟨v10, e_v10, h⟩ := md_ob h
    refine md_lI (k := 114) hj cx hw (by decide) rfl rfl rfl e_v10 dX12_failure_144 ?_
    refine lv_aload_n cx.1 cx.2.1 dX12_failure_145 rfl (lv_at hl 1 rfl) ?_
    refine lv_aload_n cx.1 cx.2.1 dX12_failure_146 rfl (lv_at hl 1 rfl) ?_
    refine md_gR (k := 112) cx hw hin12c (by decide) (by decide) (List.mem_cons_of_mem _ mm_555) dX12_failure_147 ?_
    refine lv_aload_n cx.1 cx.2.1 dX12_failure_150 rfl (lv_at hl 1 rfl) ?_
    obtain ⟨p11, e_p11, h⟩ := md_ob h
    refine hp_callVi (As := []) (rest := [.ref (ad 112), .ref (ad 137), .int v10, .int (mI σ8 127), .ref (ad 117)]) cx hw (km_X12_frameAt l D cA E _ ad hj hE n p9.2  p11 e_p11) (cwV 0 cx.2.2.2.2.2.1 (md_giV mm_551 mm_552 mm_553 mm_5 mm_554) rfl rfl rfl hd_X12_frameAt ⟨Nat.le_of_ble_eq_true rfl, Nat.le_of_ble_eq_true rfl⟩) md_at0 rfl rfl hl.1 rfl (Nat.le_of_ble_eq_true rfl) dX12_failure_151 ⟨Nat.le_refl _, Nat.le_refl _⟩ (fun r u H locs hp hw => ?_)
    obtain ⟨rfl, rfl⟩ := hp
    obtain ⟨v12, e_v12, h⟩ := md_ob h
    refine md_lI (k := 112) hj cx hw (by decide) rfl rfl rfl e_v12 dX12_failure_154 ?_
    obtain ⟨p13, e_p13, h⟩ := md_ob h
    refine hp_callVi (As := [.int v12]) (rest := [.int v10, .int (mI σ8 127), .ref (ad 117)]) cx hw (km_X12_localsOf l D cA E _ ad hj hE n p11.2 v12 p13 e_p13) (cwV 1 cx.2.2.2.2.2.1 (md_giV mm_411 mm_412 mm_413 mm_5 mm_414) rfl rfl rfl hd_X12_localsOf ⟨Nat.le_of_ble_eq_true rfl, Nat.le_of_ble_eq_true rfl⟩) md_at0 rfl rfl hl.1 rfl (Nat.le_of_ble_eq_true rfl) dX12_failure_155 ⟨Nat.le_refl _, Nat.le_refl _⟩ (fun r u H locs hp hw => ?_)
    obtain ⟨rfl, rfl⟩ := hp
    refine lv_iadd cx.1 cx.2.1 dX12_failure_158 ?_
    obtain ⟨σ14, e_σ14, h⟩ := md_ob h
    refine md_sI (k := 117) hj cx hw (by decide) rfl rfl rfl e_σ14 dX12_failure_159 (fun H locs hw => ?_)
    refine lv_aload_n cx.1 cx.2.1 dX12_failure_160 rfl (lv_at hl 1 rfl) ?_
    refine md_gR (k := 113) cx hw hin12c (by decide) (by decide) (List.mem_cons_of_mem _ mm_556) dX12_failure_161 ?_
    refine lv_aload_n cx.1 cx.2.1 dX12_failure_164 rfl (lv_at hl 1 rfl) ?_
    obtain ⟨p15, e_p15, h⟩ := md_ob h
    refine hp_callVi (As := []) (rest := [.ref (ad 113)]) cx hw (km_X12_frameAt l D cA E _ ad hj hE n σ14  p15 e_p15) (cwV 0 cx.2.2.2.2.2.1 (md_giV mm_551 mm_552 mm_553 mm_5 mm_554) rfl rfl rfl hd_X12_frameAt ⟨Nat.le_of_ble_eq_true rfl, Nat.le_of_ble_eq_true rfl⟩) md_at0 rfl rfl hl.1 rfl (Nat.le_of_ble_eq_true rfl) dX12_failure_165 ⟨Nat.le_refl _, Nat.le_refl _⟩ (fun r u H locs hp hw => ?_)
    obtain ⟨rfl, rfl⟩ := hp
    refine lv_aload_n cx.1 cx.2.1 dX12_failure_168 rfl (lv_at hl 1 rfl) ?_
    refine md_gR (k := 126) cx hw hin12c (by decide) (by decide) (List.mem_cons_of_mem _ mm_557) dX12_failure_169 ?_
    refine lv_iload_n cx.1 cx.2.1 dX12_failure_172 rfl (lv_at hl 0 rfl) ?_
    obtain ⟨v16, e_v16, h⟩ := md_ob h
    refine md_lI (k := 126) hj cx hw (by decide) rfl rfl rfl e_v16 dX12_failure_173 ?_
    obtain ⟨σ17, e_σ17, h⟩ := md_ob h
    refine md_sI (k := 113) hj cx hw (by decide) rfl rfl rfl e_σ17 dX12_failure_174 (fun H locs hw => ?_)
    refine lv_aload_n cx.1 cx.2.1 dX12_failure_175 rfl (lv_at hl 1 rfl) ?_
    refine lv_iconst (v := 0) cx.1 cx.2.1 dX12_failure_176 (by decide) ?_
    refine lv_iload_n cx.1 cx.2.1 dX12_failure_177 rfl (lv_at hl 2 rfl) ?_
    obtain ⟨p18, e_p18, h⟩ := md_ob h
    refine hp_callVv (As := [.int 0, .int a1]) (rest := []) cx hw (km_X12_push l D cA E _ ad hj hE n σ17 (0 : Int32) a1 p18 e_p18) (cwV 2 cx.2.2.2.2.2.1 (md_giV mm_558 mm_559 mm_560 mm_5 mm_561) rfl rfl rfl hd_X12_push ⟨Nat.le_of_ble_eq_true rfl, Nat.le_of_ble_eq_true rfl⟩) md_at0 rfl rfl hl.1 rfl (Nat.le_of_ble_eq_true rfl) dX12_failure_178 ⟨Nat.le_refl _, Nat.le_refl _⟩ (fun u H locs hp hw => ?_)
    obtain rfl := hp
    exact hp_vret cx hw (md_retv h) dX12_failure_181
  · have h := md_ip c9 h
    refine lv_aload_n cx.1 cx.2.1 dX12_failure_12 rfl (lv_at hl 0 rfl) ?_
    refine md_gR (k := 111) cx hw hin12c (by decide) (by decide) (List.mem_cons_of_mem _ mm_539) dX12_failure_13 ?_
    refine lv_aload_n cx.1 cx.2.1 dX12_failure_16 rfl (lv_at hl 0 rfl) ?_
    refine md_gI (k := 127) cx hw hin12c rfl (by decide) (List.mem_cons_of_mem _ mm_538) dX12_failure_17 ?_
    refine lv_iconst (v := 0) cx.1 cx.2.1 dX12_failure_20 (by decide) ?_
    obtain ⟨σ19, e_σ19, h⟩ := md_ob h
    refine md_sI (k := 111) hj cx hw (by decide) rfl rfl rfl e_σ19 dX12_failure_21 (fun H locs hw => ?_)
    refine lv_aload_n cx.1 cx.2.1 dX12_failure_22 rfl (lv_at hl 0 rfl) ?_
    refine md_gR (k := 106) cx hw hin12c (by decide) (by decide) (List.mem_cons_of_mem _ mm_562) dX12_failure_23 ?_
    refine lv_aload_n cx.1 cx.2.1 dX12_failure_26 rfl (lv_at hl 0 rfl) ?_
    refine md_gI (k := 127) cx hw hin12c rfl (by decide) (List.mem_cons_of_mem _ mm_538) dX12_failure_27 ?_
    refine lv_iconst (v := 2) cx.1 cx.2.1 dX12_failure_30 (by decide) ?_
    obtain ⟨σ20, e_σ20, h⟩ := md_ob h
    refine md_sI (k := 106) hj cx hw (by decide) rfl rfl rfl e_σ20 dX12_failure_31 (fun H locs hw => ?_)
    refine lv_aload_n cx.1 cx.2.1 dX12_failure_32 rfl (lv_at hl 0 rfl) ?_
    refine md_gR (k := 110) cx hw hin12c (by decide) (by decide) (List.mem_cons_of_mem _ mm_563) dX12_failure_33 ?_
    refine lv_aload_n cx.1 cx.2.1 dX12_failure_36 rfl (lv_at hl 0 rfl) ?_
    refine md_gI (k := 127) cx hw hin12c rfl (by decide) (List.mem_cons_of_mem _ mm_538) dX12_failure_37 ?_
    refine lv_iload_n cx.1 cx.2.1 dX12_failure_40 rfl (lv_at hl 1 rfl) ?_
    obtain ⟨σ21, e_σ21, h⟩ := md_ob h
    refine md_sI (k := 110) hj cx hw (by decide) rfl rfl rfl e_σ21 dX12_failure_41 (fun H locs hw => ?_)
    refine lv_aload_n cx.1 cx.2.1 dX12_failure_42 rfl (lv_at hl 0 rfl) ?_
    refine md_gR (k := 109) cx hw hin12c (by decide) (by decide) (List.mem_cons_of_mem _ mm_564) dX12_failure_43 ?_
    refine lv_aload_n cx.1 cx.2.1 dX12_failure_46 rfl (lv_at hl 0 rfl) ?_
    refine md_gI (k := 127) cx hw hin12c rfl (by decide) (List.mem_cons_of_mem _ mm_538) dX12_failure_47 ?_
    refine lv_iconst (v := (-1)) cx.1 cx.2.1 dX12_failure_50 (by decide) ?_
    obtain ⟨σ22, e_σ22, h⟩ := md_ob h
    refine md_sI (k := 109) hj cx hw (by decide) rfl rfl rfl e_σ22 dX12_failure_51 (fun H locs hw => ?_)
    refine lv_aload_n cx.1 cx.2.1 dX12_failure_52 rfl (lv_at hl 0 rfl) ?_
    refine lv_iconst (v := 2) cx.1 cx.2.1 dX12_failure_53 (by decide) ?_
    refine lv_iload_n cx.1 cx.2.1 dX12_failure_54 rfl (lv_at hl 1 rfl) ?_
    refine lv_iconst (v := (-1)) cx.1 cx.2.1 dX12_failure_55 (by decide) ?_
    refine lv_iconst (v := (-1)) cx.1 cx.2.1 dX12_failure_56 (by decide) ?_
    obtain ⟨p23, e_p23, h⟩ := md_ob h
    refine hp_callVv (As := [.int 2, .int a1, .int (-1), .int (-1)]) (rest := []) cx hw (km_X12_tells l D cA E _ ad hj hE n σ22 (2 : Int32) a1 ((-1) : Int32) ((-1) : Int32) p23 e_p23) (cwV 4 cx.2.2.2.2.2.1 (md_giV mm_565 mm_566 mm_567 mm_5 mm_568) rfl rfl rfl hd_X12_tells ⟨Nat.le_of_ble_eq_true rfl, Nat.le_of_ble_eq_true rfl⟩) md_at0 rfl rfl hl.1 rfl (Nat.le_of_ble_eq_true rfl) dX12_failure_57 ⟨Nat.le_refl _, Nat.le_refl _⟩ (fun u H locs hp hw => ?_)
    obtain rfl := hp
    refine lv_aload_n cx.1 cx.2.1 dX12_failure_60 rfl (lv_at hl 0 rfl) ?_
    refine lv_iconst (v := 0) cx.1 cx.2.1 dX12_failure_61 (by decide) ?_
    obtain ⟨σ24, e_σ24, h⟩ := md_ob h
    refine md_pZ (k := 128) cx hw hin12c rfl (by decide) rfl (List.mem_cons_of_mem _ mm_569) rfl (by decide) e_σ24 dX12_failure_62 (fun H locs hw => ?_)
    exact hp_vret cx hw (md_retv h) dX12_failure_65
