/-! a step, whatever the instruction -/
/-- what a check or an able leads to (to be shown) -/
def ASKS (n mx d : Nat) (C : Nat × Nat) (c1 : cd_S) (m1 : md_S) (D : PD) : Prop :=
  ∀ (Z K st t k : Nat) (c : cd_S) (b : cd_B) (m : md_S) (h : HV) (Ls : List (List Int32)) (Fs : Nat → List FR) (f : FR) (r : List FR) (s : List SH) (e : EN), Z + 2 < 2 ^ 31 → (k = 25 ∨ k = 26) → RR n mx d Z C c b m c1 m1 D h Ls K st t Fs (f :: r) → AT c m m1 D h d t f r s e k → NXT n mx d Z C c b m c1 m1 D h K st t Fs (f :: r)
theorem step_ok {n mx d Z K st t : Nat} {C : Nat × Nat} {c c1 : cd_S} {b : cd_B} {m m1 : md_S} {D : PD} {h : HV} {Ls : List (List Int32)} {Fs : Nat → List FR} {F : List FR} (hn : 40000 ≤ n) (hC : BC C) (hZ : Z + 2 < 2 ^ 31) (ha : ASKS n mx d C c1 m1 D) (hr : RR n mx d Z C c b m c1 m1 D h Ls K st t Fs F) (hF : F ≠ []) : NXT n mx d Z C c b m c1 m1 D h K st t Fs F := by
  cases F with
  | nil => exact absurd rfl hF
  | cons f r =>
    obtain ⟨s, e, k, hA⟩ := hr.at
    have hk := hA.2.2.2.2.2.1.2
    match k, hk, hA with
    | 0, _, hA => exact (i_number hC hr hA).nxt
    | 1, _, hA => exact (i_none hC hr hA).nxt
    | 2, _, hA => exact (i_get hC hr hA).nxt
    | 3, _, hA => exact (i_put hr hA).nxt
    | 4, _, hA => exact i_new hn hC (by omega) hr hA
    | 5, _, hA => exact i_read hn hC (by omega) hr hA
    | 6, _, hA => exact i_write hn hC (by omega) hr hA
    | 7, _, hA => exact i_send hn hC (by omega) hr hA
    | 8, _, hA => exact i_apply hn hC (by omega) hr hA
    | 9, _, hA => exact i_fun hn hC (by omega) hr hA
    | 10, _, hA => exact i_part hn hC (by omega) hr hA
    | 11, _, hA => exact i_calc11 hn hC (by omega) hr hA
    | 12, _, hA => exact i_calc12 hn hC (by omega) hr hA
    | 13, _, hA => exact i_calc13 hn hC (by omega) hr hA
    | 14, _, hA => exact i_calc14 hn hC (by omega) hr hA
    | 15, _, hA => exact i_same hn hC (by omega) hr hA
    | 16, _, hA => exact (i_drop hr hA).nxt
    | 17, _, hA => exact (i_go hr hA).nxt
    | 18, _, hA => exact i_zero hn hC (by omega) hr hA
    | 19, _, hA => exact (i_try hC hr hA).nxt
    | 20, _, hA => exact (i_tried hC hr hA).nxt
    | 21, _, hA => exact i_out hn hC (by omega) hr hA
    | 22, _, hA => exact i_fail hn hC (by omega) hr hA
    | 23, _, hA => exact i_spawn hn hC (by omega) hr hA
    | 24, _, hA => exact i_wait hn hC (by omega) hr hA
    | 25, _, hA => exact ha Z K st t 25 c b m h Ls Fs f r s e hZ (Or.inl rfl) hr hA
    | 26, _, hA => exact ha Z K st t 26 c b m h Ls Fs f r s e hZ (Or.inr rfl) hr hA
    | 27, _, hA => exact (i_ctx hC hr hA).nxt
    | 28, _, hA => exact i_back hC hr hA
    | k + 29, hk, _ => exact absurd hk (by omega)
/-- the class's loop of a thread takes k turns -/
theorem CRs.run {n t : Nat} : ∀ (k : Nat) (s : Int32) (c : cd_S) (b : cd_B) (s' : Int32) (c' : cd_S) (b' : cd_B), CRs n t k (s, c, b) (s', c', b') → ∀ (j l : Nat) (R : cd_S × cd_B × Int32 × Int32), l + k ≤ 100000000 → f_X1_goThread_L33 n t j c' b' s' (nI (l + k)) = some R → ble R.2.1 b' → f_X1_goThread_L33 n t (j + k) c b s (nI l) = some R ∧ ble b' b
  | 0, s, c, b, s', c', b', h, j, l, R, hl, hR, hb => by
      have h1 : (s, c, b) = (s', c', b') := h
      injection h1 with h1 h2
      injection h2 with h2 h3
      subst h1; subst h2; subst h3
      exact ⟨hR, ble.refl b⟩
  | k + 1, s, c, b, s', c', b', ⟨h1, ⟨s1, c1, b1⟩, h2, h3, h4⟩, j, l, R, hl, hR, hb => by
      obtain ⟨r1, r2⟩ := CRs.run k s1 c1 b1 s' c' b' h4 j (l + 1) R (by omega) (by rw [show l + 1 + k = l + (k + 1) by omega]; exact hR) hb
      refine ⟨?_, ble.tr r2 h3⟩
      have hbR : ble R.2.1 b1 := ble.tr hb r2
      rw [show j + (k + 1) = j + k + 1 by omega, u_X1_goThread_L33, if_neg (show ¬ (100000000 : Int32) ≤ nI l from fun z => absurd ((nI_leI (a := 100000000) (by decide) (by omega)).mp z) (by omega)), if_neg (show ¬ s = 1 from h1)]
      unfold itc at h2
      unfold f_X1_goThread_J78
      by_cases q2 : s = 2
      · rw [if_pos q2] at h2 ⊢
        have h2' : f_X1_raise n c b t = some (s1, c1, b1) := h2
        rw [h2', bs_some]
        refine c_ck ?_ hbR.1 hbR.2
        dsimp only
        rw [nI_1]; exact r1
      · rw [if_neg q2] at h2 ⊢
        by_cases q3 : s = 3
        · rw [if_pos q3] at h2 ⊢
          have h2' : f_X1_begin n c b t = some (s1, c1, b1) := h2
          rw [h2', bs_some]
          refine c_ck ?_ hbR.1 hbR.2
          dsimp only
          rw [nI_1]; exact r1
        · rw [if_neg q3] at h2 ⊢
          have h2' : f_X1_step n c b t = some (s1, c1, b1) := h2
          rw [h2', bs_some]
          refine c_ck ?_ hbR.1 hbR.2
          dsimp only
          rw [nI_1]; exact r1
