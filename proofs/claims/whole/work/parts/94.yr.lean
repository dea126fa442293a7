section
/-! years: the picture -/
variable {xs : Nat → Int32} {xl : Nat} {I J : w_I} {b : Bool} {Q : Option Value → w_I → w_I → Bool → Prop}
variable {s : Int → Int}
def m_mix (a c : Int) : Int := w_xor (w_xor a c * 1103515245 + 12345) (w_ush (w_xor a c * 1103515245 + 12345) 15)
def m_lot (seed wh m : Int) : Int := w_ush (m_mix (m_mix seed 17) wh) 1 % m
theorem m_mix_in (a c : Int) : w_in (m_mix a c) := w_bnd _
theorem w_ush1_b (x : Int) : 0 ≤ w_ush x 1 ∧ w_ush x 1 < 2147483648 := by
  unfold w_ush
  have e : ((Int32.ofInt x).toUInt32 >>> ((Int32.ofInt 1).toUInt32 &&& Int32.toUInt32 31)).toInt32.toInt = BitVec.toInt ((BitVec.ofInt 32 x) >>> 1) := rfl
  rw [e]
  have n : ((BitVec.ofInt 32 x) >>> 1).toNat = (BitVec.ofInt 32 x).toNat / 2 := by
    rw [BitVec.toNat_ushiftRight]
    rw [Nat.shiftRight_eq_div_pow]
  have l := (BitVec.ofInt 32 x).isLt
  rw [BitVec.toInt_eq_toNat_cond, n, if_pos (by omega)]
  omega
theorem m_lot_b {seed wh m : Int} (hm : 0 < m) : 0 ≤ m_lot seed wh m ∧ m_lot seed wh m < m := by
  unfold m_lot
  exact ⟨Int.emod_nonneg _ (by omega), Int.emod_lt_of_pos _ hm⟩
/-- who dies in a year -/
def m_dth (F : m_F) (seed wh : Int) (s : Int → Int) : Nat → Int → Int
  | 0 => s
  | p + 1 => if m_isP (m_dth F seed wh s p) p ∧ m_lot seed (wh + p) 100 < m_dieb F (m_dth F seed wh s p) (m_pa (m_dth F seed wh s p) p 0) (m_dth F seed wh s p (100 + 6 * p + 3)) then m_die (m_dth F seed wh s p) p else m_dth F seed wh s p
theorem m_dth_s {F : m_F} {seed wh : Int} {p : Nat} : m_dth F seed wh s (p + 1) = if m_isP (m_dth F seed wh s p) p ∧ m_lot seed (wh + p) 100 < m_dieb F (m_dth F seed wh s p) (m_pa (m_dth F seed wh s p) p 0) (m_dth F seed wh s p (100 + 6 * p + 3)) then m_die (m_dth F seed wh s p) p else m_dth F seed wh s p := rfl
/-- what a year keeps -/
abbrev y_K (s E : Int → Int) : Prop := m_wf E ∧ m_eqT s E ∧ E 9 = s 9
theorem y_K_rf (wf : m_wf s) : y_K s s := ⟨wf, fun _ _ => rfl, rfl⟩
theorem y_K_t {E D : Int → Int} (h : y_K s E) (h' : y_K E D) : y_K s D := ⟨h'.1, fun k hk => (h'.2.1 k hk).trans (h.2.1 k hk), h'.2.2.trans h.2.2⟩
theorem y_K_die (wf : m_wf s) {p : Int} (hp : m_isP s p) : y_K s (m_die s p) ∧ m_die s p 7 = s 7 ∧ m_die s p 8 = s 8 := by
  have w0 := wf.1.1
  have hp1 := hp.1
  have w2 := wf.1.2.2.1 p hp.1 hp.2.1
  exact ⟨⟨m_wf_die wf hp, fun k hk => m_die_r (by omega) (by omega), m_die_r (by omega) (by omega)⟩, m_die_r (by omega) (by omega), m_die_r (by omega) (by omega)⟩
theorem y_K_dth {F : m_F} {seed wh : Int} (wf : m_wf s) : ∀ p : Nat, y_K s (m_dth F seed wh s p) ∧ m_dth F seed wh s p 7 = s 7 ∧ m_dth F seed wh s p 8 = s 8
  | 0 => ⟨y_K_rf wf, rfl, rfl⟩
  | p + 1 => by
    have ih := y_K_dth (F := F) (seed := seed) (wh := wh) wf p
    rw [m_dth_s]
    split
    · rename_i c
      have d := y_K_die ih.1.1 c.1
      exact ⟨y_K_t ih.1 d.1, d.2.1.trans ih.2.1, d.2.2.trans ih.2.2⟩
    · exact ih
theorem m_cd_T {F : m_F} {E : Int → Int} (wf : m_wf s) (cd : m_cd F s) (hT : m_eqT s E) : m_cd F E := by
  have w0 := wf.1.1
  refine ⟨fun w h0 h1 => ?_, fun r h0 h1 => ?_⟩
  · rw [hT (11 + 2 * w) (by omega), hT (11 + 2 * w + 1) (by omega)]
    exact cd.1 w h0 h1
  · rw [hT 4 (by omega)] at h1
    rw [hT (80 + 2 * r) (by omega), hT (80 + 2 * r + 1) (by omega)]
    exact cd.2 r h0 h1
theorem m_tt_T {E : Int → Int} (wf : m_wf s) (h : m_eqT s E) : m_tt E ↔ m_tt s := by
  have w0 := wf.1.1
  have e0 := h 0 (by omega)
  have e : ∀ sd, m_sum (fun h => if E (20 + h) = sd then 1 else 0) (s 0).toNat = m_sum (fun h => if s (20 + h) = sd then 1 else 0) (s 0).toNat := fun sd => m_sum_c _ (fun i hi => by
    try dsimp only
    rw [h (20 + i) (by omega)])
  have e1 := e 1
  have e2 := e 2
  unfold m_tt
  rw [e0]
  rw [e1, e2]
/-- who comes: c the family, p the person -/
def y_cp (s : Int → Int) (c p : Int) : Prop := (c = -1 ∧ p = -1) ∨ ((m_isF s c ∧ s (460 + 3 * c + 1) = -2) ∧ m_isP s p ∧ s (100 + 6 * p + 5) = c ∧ ∀ q, m_isP s q → s (100 + 6 * q + 5) = c → q = p)
theorem y_cp_m {c p : Int} (h : y_cp s c p) : m_cm s c := by
  rcases h with h | h
  · exact Or.inl h.1
  · exact Or.inr h.1
def y_in (s : Int → Int) (seed wh : Int) : Prop := (s 7 < 60 ∧ s 8 < 30) ∧ m_lot seed (wh + 100) 100 < 50
def y_cm (s : Int → Int) (seed wh : Int) (s' : Int → Int) (c p : Int) : Prop :=
  (y_in s seed wh ∧ s' = m_enter s (m_lot seed (wh + 101) 90) (m_lot seed (wh + 101) 90) (if m_lot seed (wh + 102) 9 = 0 then 1 else 0) ∧ c = s 8 ∧ p = s 7) ∨ (¬ y_in s seed wh ∧ s' = s ∧ c = -1 ∧ p = -1)
theorem y_cm_u {seed wh c p c' p' : Int} {s1 s1' : Int → Int} (h : y_cm s seed wh s1 c p) (h' : y_cm s seed wh s1' c' p') : s1 = s1' ∧ c = c' ∧ p = p' := by
  rcases h with ⟨a, b, d, e⟩ | ⟨a, b, d, e⟩
  · rcases h' with ⟨a', b', d', e'⟩ | ⟨a', b', d', e'⟩
    · exact ⟨b.trans b'.symm, by omega, by omega⟩
    · exact absurd a a'
  · rcases h' with ⟨a', b', d', e'⟩ | ⟨a', b', d', e'⟩
    · exact absurd a' a
    · exact ⟨b.trans b'.symm, by omega, by omega⟩
theorem y_K_cm {seed wh c p : Int} {E : Int → Int} (wf : m_wf s) (h : y_cm s seed wh E c p) : y_K s E ∧ y_cp E c p := by
  have w := wf.1
  have w0 := w.1
  rcases h with ⟨a, b, d, e⟩ | ⟨a, b, d, e⟩
  · have lb := m_lot_b (seed := seed) (wh := wh + 101) (m := 90) (by omega)
    generalize hl : (if m_lot seed (wh + 102) 9 = 0 then (1 : Int) else 0) = l at b
    have l01 : l = 0 ∨ l = 1 := by
      rw [← hl]
      split
      · exact Or.inr rfl
      · exact Or.inl rfl
    generalize m_lot seed (wh + 101) 90 = y at b lb
    have en := m_en_p (y := y) (t := y) (l := l) w a.1.1 a.1.2
    have er : ∀ k, (k < 100 + 6 * s 7 ∨ (460 ≤ k ∧ k < 460 + 3 * s 8) ∨ 550 ≤ k) → k ≠ 7 → k ≠ 8 → m_enter s y y l k = s k := fun k h h7 h8 => m_en_r w h h7 h8 a.1.1 a.1.2
    have w' := m_wf_enter (y := y) (t := y) (l := l) wf a.1.1 a.1.2 (by omega) (by omega) l01
    have e7 : m_enter s y y l 7 = s 7 + 1 := by
      unfold m_enter
      rw [if_neg (by decide), if_pos rfl]
    have e8 := m_en_8 (s := s) (y := y) (t := y) (l := l)
    rw [← b] at en er w' e7 e8
    subst d e
    obtain ⟨n0, n1, n2, n3, n4, n5, n6, n7', n8⟩ := en
    refine ⟨⟨w', fun k hk => er k (by omega) (by omega) (by omega), er 9 (by omega) (by omega) (by omega)⟩, Or.inr ⟨⟨⟨by omega, by omega, n6⟩, n7'⟩, ⟨by omega, by omega, n0⟩, n5, fun q hq hf => ?_⟩⟩
    have q1 := hq.1
    have q2 := hq.2.1
    have q3 := hq.2.2
    rw [e7] at q2
    by_cases x : q = s 7
    · exact x
    · rw [er _ (by omega) (by omega) (by omega)] at hf q3
      have w2 := w.2.2.1 q q1 (by omega)
      have := wf.2.1 q ⟨q1, by omega, q3⟩
      omega
  · subst b d e
    exact ⟨y_K_rf wf, Or.inl ⟨rfl, rfl⟩⟩
/-- all moved at the least: comer c (person p) or nobody -/
def y_ls (F : m_F) (s : Int → Int) (c p : Int) (s' : Int → Int) (mv : Int) : Prop := ∃ n r, r_ok n r (m_S s c) (m_rk s (m_kf s (s 1))) ∧ ((n ≤ s 0 ∧ s' = m_setN s r (m_gL F s n r) n.toNat ∧ mv = m_V F s n r / 1000000) ∨ (s 0 < n ∧ mv = 0 ∧ ((c = -1 ∧ s' = s) ∨ (c ≠ -1 ∧ s' = m_die s p))))
theorem y_K_oh {E : Int → Int} (wf : m_wf s) (h : m_oh s E) (w' : m_wf E) : y_K s E := ⟨w', m_oh_T wf h, (m_oh_f wf h).2.2.2.2.2.2.2.1⟩
theorem y_K_ls {F : m_F} {c p mv : Int} {E : Int → Int} (wf : m_wf s) (hc : y_cp s c p) (h : y_ls F s c p E mv) : y_K s E ∧ 0 ≤ mv ∧ mv ≤ 24 := by
  have w0 := wf.1.1
  obtain ⟨n, r, hr, h⟩ := h
  have n0 := hr.1
  rcases h with ⟨h1, h2, h3⟩ | ⟨h1, h2, h3⟩
  · have vd := m_V_d (s := s) F (r := r) n0 (by omega)
    subst h2
    exact ⟨y_K_oh wf (m_set_oh (y_cp_m hc) hr) (m_wf_set wf (y_cp_m hc) hr (m_gL_up n0 h1)), by omega, by omega⟩
  · refine ⟨?_, by omega, by omega⟩
    rcases h3 with ⟨a, b⟩ | ⟨a, b⟩
    · subst b; exact y_K_rf wf
    · subst b
      rcases hc with hc | hc
      · exact absurd hc.1 a
      · exact (y_K_die wf hc.2.1).1
/-- all put in order on the lowest places -/
def y_gS (s : Int → Int) (n : Int) (i : Nat) : Int := s 0 - n + i
def y_ct (s : Int → Int) (n : Int) (r : Int → Int) (k : Nat) : Int := m_sum (fun i => if 0 ≤ m_hm s (r i) ∧ m_hm s (r i) ≠ s 0 - n + i then 1 else 0) k
def y_fn (s : Int → Int) (n : Int) (r : Int → Int) (s' : Int → Int) (mv : Int) : Prop := s' = m_setN s r (y_gS s n) n.toNat ∧ mv = y_ct s n r n.toNat
def y_st (s : Int → Int) (c p : Int) (s' : Int → Int) (mv : Int) : Prop := ∃ n r, r_ok n r (m_S s (-1)) (m_rk s (m_kf s (s 1))) ∧
  ((c = -1 ∧ y_fn s n r s' mv) ∨ (c ≠ -1 ∧ n = s 0 ∧ y_fn (m_die s p) n r s' mv) ∨ (c ≠ -1 ∧ n < s 0 ∧ ∃ r1, r_ok (n + 1) r1 (m_S s c) (m_rk s (m_kf s (s 1))) ∧ y_fn s (n + 1) r1 s' mv))
theorem y_gS_up {n : Int} (h0 : 0 ≤ n) (hn : n ≤ s 0) : g_up (y_gS s n) n (s 0) := by
  refine ⟨fun i hi => ?_, fun i j a b => ?_⟩
  · unfold y_gS; omega
  · unfold y_gS; omega
theorem y_ct_b {n : Int} {r : Int → Int} (k : Nat) : 0 ≤ y_ct s n r k ∧ y_ct s n r k ≤ k := by
  have := m_sum_b (P := fun i => if 0 ≤ m_hm s (r i) ∧ m_hm s (r i) ≠ s 0 - n + i then 1 else 0) (lo := 0) (hi := 1) k (fun i _ => by split <;> decide)
  unfold y_ct
  omega
/-- who dies belongs to no other family -/
theorem m_die_fam (wf : m_wf s) {p : Int} (hp : m_isP s p) {f : Int} (hf : f ≠ s (100 + 6 * p + 5)) (h0 : 0 ≤ f) : m_ag (m_die s p) f (-1) 0 (s 3) = m_ag s f (-1) 0 (s 3) ∧ m_die s p (460 + 3 * f) = s (460 + 3 * f) ∧ m_die s p (460 + 3 * f + 1) = s (460 + 3 * f + 1) := by
  have w0 := wf.1.1
  have hp1 := hp.1
  have hp2 := hp.2.1
  have w2 := wf.1.2.2.1 p hp1 hp2
  have e7 : m_die s p 7 = s 7 := m_die_r (by omega) (by omega)
  have e9 : m_die s p 9 = s 9 := m_die_r (by omega) (by omega)
  have dp := m_die_p wf hp
  have mi : ∀ i, 0 ≤ i → i < s 7 → (m_in (m_die s p) f (-1) i ↔ m_in s f (-1) i) := fun i a1 a2 => by
    simp only [m_in]
    have wi := wf.1.2.2.1 i a1 a2
    rw [m_die_r (k := 100 + 6 * i + 5) (by omega) (by omega)]
    by_cases e : i = p
    · subst e
      rw [dp]
      omega
    · rw [m_die_r (k := 100 + 6 * i) (by omega) (by omega)]
  have pa : ∀ i, 0 ≤ i → i < s 7 → m_pa (m_die s p) i 0 = m_pa s i 0 := fun i a1 a2 => by
    unfold m_pa
    rw [if_pos rfl, m_die_r (k := 100 + 6 * i + 2) (by omega) (by omega), m_die_r (k := 100 + 6 * i + 4) (by omega) (by omega), e9]
  refine ⟨?_, m_die_r (by omega) (by omega), m_die_r (by omega) (by omega)⟩
  have z1 : m_sz (m_die s p) f (-1) = m_sz s f (-1) := by
    unfold m_sz
    rw [e7]
    refine m_sum_c _ (fun i hi => ?_)
    try dsimp only
    simp only [mi i (by omega) (by omega)]
  have z3 : m_mo (m_die s p) f (-1) 0 = m_mo s f (-1) 0 := by
    unfold m_mo
    rw [e7]
    refine m_mx_c _ (fun i hi => ?_)
    try dsimp only
    rw [pa i (by omega) (by omega)]
    simp only [mi i (by omega) (by omega)]
  have z4 : m_sm (m_die s p) f (-1) 0 = m_sm s f (-1) 0 := by
    unfold m_sm
    rw [e7]
    refine m_sum_c _ (fun i hi => ?_)
    try dsimp only
    rw [pa i (by omega) (by omega)]
    simp only [mi i (by omega) (by omega)]
  unfold m_ag
  rw [z1, z3, z4]
end
