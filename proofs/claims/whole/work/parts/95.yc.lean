section
/-! years: the rest of the picture -/
variable {xs : Nat → Int32} {xl : Nat} {I J : w_I} {b : Bool} {Q : Option Value → w_I → w_I → Bool → Prop}
variable {s : Int → Int}
theorem r_rk {n : Int} {r : Int → Int} {S : Int → Prop} {rk rk' : Int → Int} (h : r_ok n r S rk) (e : ∀ f, S f → rk' f = rk f) : r_ok n r S rk' := by
  obtain ⟨a0, a1, a2, a3⟩ := h
  refine ⟨a0, a1, a2, fun i j x y z => ?_⟩
  rw [e _ (a1 i x (by omega)), e _ (a1 j (by omega) z)]
  exact a3 i j x y z
/-- one taken out of a row -/
theorem r_del {n c : Int} {r : Int → Int} {S S' : Int → Prop} {rk : Int → Int} (h : r_ok n r S rk) (hc : S c) (hS : ∀ f, S' f ↔ S f ∧ f ≠ c) : ∃ r', r_ok (n - 1) r' S' rk := by
  obtain ⟨a0, a1, a2, a3⟩ := h
  obtain ⟨i, i0, i1, i2⟩ := a2 c hc
  have ne : ∀ j, 0 ≤ j → j < n → j ≠ i → r j ≠ c := fun j j0 j1 j2 e => by
    rw [← i2] at e
    by_cases x : j < i
    · have := a3 j i j0 x i1
      rw [e] at this
      omega
    · have := a3 i j i0 (by omega) j1
      rw [e] at this
      omega
  refine ⟨fun j => if j < i then r j else r (j + 1), by omega, fun j j0 j1 => ?_, fun f hf => ?_, fun j j' x y z => ?_⟩
  · try dsimp only
    split
    · exact (hS _).mpr ⟨a1 j j0 (by omega), ne j j0 (by omega) (by omega)⟩
    · exact (hS _).mpr ⟨a1 (j + 1) (by omega) (by omega), ne (j + 1) (by omega) (by omega) (by omega)⟩
  · obtain ⟨f1, f2⟩ := (hS f).mp hf
    obtain ⟨j, j0, j1, j2⟩ := a2 f f1
    by_cases x : j < i
    · exact ⟨j, j0, by omega, by dsimp only; rw [if_pos x]; exact j2⟩
    · by_cases y : j = i
      · subst y
        exact absurd (j2.symm.trans i2) f2
      · refine ⟨j - 1, by omega, by omega, ?_⟩
        try dsimp only
        rw [if_neg (by omega), show j - 1 + 1 = j by omega]
        exact j2
  · try dsimp only
    by_cases c1 : j < i
    · rw [if_pos c1]
      by_cases c2 : j' < i
      · rw [if_pos c2]; exact a3 j j' x y (by omega)
      · rw [if_neg c2]; exact a3 j (j' + 1) x (by omega) (by omega)
    · rw [if_neg c1, if_neg (show ¬ j' < i by omega)]
      exact a3 (j + 1) (j' + 1) (by omega) (by omega) (by omega)
/-- who is on the hill stays when the comer goes -/
theorem y_die_S (wf : m_wf s) {c p : Int} (hc : y_cp s c p) (hn : c ≠ -1) (g : Int) : m_S (m_die s p) (-1) g ↔ m_S s (-1) g := by
  rcases hc with hc | ⟨h1, h2, h3, h4⟩
  · exact absurd hc.1 hn
  · have d8 := (y_K_die wf h2).2.2
    have home : 0 ≤ g → m_die s p (460 + 3 * g + 1) = s (460 + 3 * g + 1) := fun g0 => by
      have w0 := wf.1.1
      have p1 := h2.1
      have p2 := h2.2.1
      have w2 := wf.1.2.2.1 p p1 p2
      exact m_die_r (by omega) (by omega)
    unfold m_S
    constructor
    · rintro (⟨⟨a, b, d⟩, e⟩ | x)
      · left
        rw [home a] at e
        have gc : g ≠ c := fun x => by subst x; omega
        have f := m_die_fam wf h2 (f := g) (by omega) a
        rw [f.2.1] at d
        exact ⟨⟨a, by rw [← d8]; exact b, d⟩, e⟩
      · exact absurd rfl x.2
    · rintro (⟨⟨a, b, d⟩, e⟩ | x)
      · left
        have gc : g ≠ c := fun x => by subst x; omega
        have f := m_die_fam wf h2 (f := g) (by omega) a
        exact ⟨⟨a, by rw [d8]; exact b, by rw [f.2.1]; exact d⟩, by rw [home a]; exact e⟩
      · exact absurd rfl x.2
theorem y_die_rk (wf : m_wf s) {c p : Int} (hc : y_cp s c p) (hn : c ≠ -1) (g : Int) (hg : m_S s (-1) g) : m_rk (m_die s p) (m_kf (m_die s p) (m_die s p 1)) g = m_rk s (m_kf s (s 1)) g := by
  rcases hc with hc | ⟨h1, h2, h3, h4⟩
  · exact absurd hc.1 hn
  · rcases hg with hg | hg
    · have gc : g ≠ c := fun x => by subst x; have := hg.2; omega
      have f := m_die_fam wf h2 (f := g) (by omega) hg.1.1
      have w0 := wf.1.1
      have p1 := h2.1
      have p2 := h2.2.1
      have w2 := wf.1.2.2.1 p p1 p2
      have e1 : m_die s p 1 = s 1 := m_die_r (by omega) (by omega)
      have e3 : m_die s p 3 = s 3 := m_die_r (by omega) (by omega)
      unfold m_rk m_kf m_ps m_ga
      rw [e1, e3, f.1, f.2.2]
    · exact absurd rfl hg.2
theorem y_die_row (wf : m_wf s) {c p : Int} (hc : y_cp s c p) (hn : c ≠ -1) {n : Int} {r : Int → Int} : r_ok n r (m_S (m_die s p) (-1)) (m_rk (m_die s p) (m_kf (m_die s p) (m_die s p 1))) ↔ r_ok n r (m_S s (-1)) (m_rk s (m_kf s (s 1))) := by
  constructor
  · intro h
    have h := r_ext h (fun _ _ _ => rfl) (y_die_S wf hc hn)
    exact r_rk h (fun f hf => (y_die_rk wf hc hn f hf).symm)
  · intro h
    have h := r_rk h (rk' := m_rk (m_die s p) (m_kf (m_die s p) (m_die s p 1))) (fun f hf => y_die_rk wf hc hn f hf)
    exact r_ext h (fun _ _ _ => rfl) (fun f => (y_die_S wf hc hn f).symm)
theorem y_K_st {c p mv : Int} {E : Int → Int} (wf : m_wf s) (hc : y_cp s c p) (h : y_st s c p E mv) : y_K s E ∧ 0 ≤ mv ∧ mv ≤ 24 := by
  have w0 := wf.1.1
  obtain ⟨n, r, hr, h⟩ := h
  have n0 := hr.1
  have nb := m_row_b wf hr
  have cb := fun (s : Int → Int) (n : Int) (r : Int → Int) => y_ct_b (s := s) (n := n) (r := r) n.toNat
  rcases h with ⟨h1, h2, h3⟩ | ⟨h1, h2, h3, h4⟩ | ⟨h1, h2, r1, hr1, h3, h4⟩
  · have cb := cb s n r
    subst h2
    exact ⟨y_K_oh wf (m_set_oh (Or.inl rfl) hr) (m_wf_set wf (Or.inl rfl) hr (y_gS_up n0 nb)), by omega, by omega⟩
  · have cb := cb (m_die s p) n r
    have pp : m_isP s p := by
      rcases hc with hc | hc
      · exact absurd hc.1 h1
      · exact hc.2.1
    have d := y_K_die wf pp
    have d0 := d.1.2.1 0 (by omega)
    have hr' := (y_die_row wf hc h1).mpr hr
    subst h3
    refine ⟨y_K_t d.1 (y_K_oh d.1.1 (m_set_oh (Or.inl rfl) hr') (m_wf_set d.1.1 (Or.inl rfl) hr' ?_)), by omega, by omega⟩
    have := y_gS_up (s := m_die s p) n0 (by omega)
    exact this
  · have cb := cb s (n + 1) r1
    subst h3
    exact ⟨y_K_oh wf (m_set_oh (y_cp_m hc) hr1) (m_wf_set wf (y_cp_m hc) hr1 (y_gS_up (by omega) (by omega))), by omega, by omega⟩
/-- the nearest empty house -/
def y_bl (s : Int → Int) (c : Int) : Int := m_sum (fun g => if m_lvg s g ∧ m_kf s (s 1) g ≤ m_kf s (s 1) c then 1 else 0) (s 8).toNat
abbrev y_ab (x : Int) : Int := if 0 ≤ x then x else -x
abbrev y_nc (s : Int → Int) (wd b h : Int) : Prop := m_dw s h < 0 ∧ (b < 0 ∨ y_ab (h - wd) < y_ab (b - wd))
def y_nb (s : Int → Int) (wd : Int) : Nat → Int
  | 0 => -1
  | h + 1 => if y_nc s wd (y_nb s wd h) h then (h : Int) else y_nb s wd h
theorem y_nb_s {wd : Int} {h : Nat} : y_nb s wd (h + 1) = if y_nc s wd (y_nb s wd h) h then (h : Int) else y_nb s wd h := rfl
theorem y_nb_b {wd : Int} : ∀ h : Nat, -1 ≤ y_nb s wd h ∧ y_nb s wd h < h ∧ (0 ≤ y_nb s wd h → m_dw s (y_nb s wd h) < 0)
  | 0 => ⟨Int.le_refl _, by show (-1 : Int) < ((0 : Nat) : Int); omega, fun x => by
    have e : y_nb s wd 0 = -1 := rfl
    omega⟩
  | h + 1 => by
    have ih := y_nb_b (wd := wd) h
    rw [y_nb_s]
    by_cases c : y_nc s wd (y_nb s wd h) h
    · rw [if_pos c]
      exact ⟨by omega, by omega, fun _ => c.1⟩
    · rw [if_neg c]
      exact ⟨ih.1, by omega, ih.2.2⟩
def y_nr (s : Int → Int) (c p : Int) (s' : Int → Int) : Prop := (c = -1 ∧ s' = s) ∨ (c ≠ -1 ∧ ((y_nb s (y_bl s c) (s 0).toNat < 0 ∧ s' = m_die s p) ∨ (0 ≤ y_nb s (y_bl s c) (s 0).toNat ∧ s' = u1 s (460 + 3 * c + 1) (y_nb s (y_bl s c) (s 0).toNat))))
theorem m_dw_emp (wf : m_wf s) {h : Int} (hh : m_dw s h < 0) (h0 : 0 ≤ h) : m_emp s h := fun f hf e => by
  rw [m_dw_f wf hf e h0] at hh
  have := hf.1
  omega
theorem y_K_nr {c p : Int} {E : Int → Int} (wf : m_wf s) (hc : y_cp s c p) (h : y_nr s c p E) : y_K s E := by
  have w0 := wf.1.1
  rcases h with ⟨h1, h2⟩ | ⟨h1, h2⟩
  · subst h2; exact y_K_rf wf
  · rcases hc with hc | hc
    · exact absurd hc.1 h1
    · have c0 := hc.1.1.1
      have c1 := hc.1.1.2.1
      rcases h2 with ⟨a, b⟩ | ⟨a, b⟩
      · subst b; exact (y_K_die wf hc.2.1).1
      · have nb := y_nb_b (s := s) (wd := y_bl s c) (s 0).toNat
        subst b
        refine ⟨m_wf_home wf hc.1.1 (Or.inr ⟨a, by omega, m_dw_emp wf (nb.2.2 a) a⟩), fun k hk => ?_, ?_⟩
        · rw [u1g, if_neg (by omega)]
        · rw [u1g, if_neg (by omega)]
/-- one year -/
def y_yr (F : m_F) (seed wh rule : Int) (s s' : Int → Int) (mv : Int) : Prop := ∃ s2 s3 c p, s2 = m_dth F seed wh (u1 s 9 (s 9 + 12)) (s 7).toNat ∧ y_cm s2 seed wh s3 c p ∧
  ((rule = 0 ∧ ∃ s4 m1 m2, ((c = -1 ∧ s4 = s3 ∧ m1 = 0) ∨ (c ≠ -1 ∧ y_ls F s3 c p s4 m1)) ∧ y_ls F s4 (-1) (-1) s' m2 ∧ mv = m1 + m2) ∨
   (rule = 2 ∧ y_st s3 c p s' mv) ∨
   (rule ≠ 0 ∧ rule ≠ 2 ∧ ∃ s4, y_nr s3 c p s4 ∧ ((rule = 3 ∧ m_any F s4 ≠ 0 ∧ y_ls F s4 (-1) (-1) s' mv) ∨ (¬ (rule = 3 ∧ m_any F s4 ≠ 0) ∧ s' = s4 ∧ mv = 0))))
def y_ys (F : m_F) (seed rule : Int) : Nat → Int → (Int → Int) → (Int → Int) → Int → Prop
  | 0, _, s, s', mv => s' = s ∧ mv = 0
  | k + 1, i, s, s', mv => ∃ s1 m1 m2, y_yr F seed (200 * i) rule s s1 m1 ∧ y_ys F seed rule k (i + 1) s1 s' m2 ∧ mv = m1 + m2
theorem y_cp0 : y_cp s (-1) (-1) := Or.inl ⟨rfl, rfl⟩
theorem y_yr_ok {F : m_F} {seed wh rule mv : Int} {E : Int → Int} (wf : m_wf s) (h9 : s 9 + 12 ≤ 1200) (h : y_yr F seed wh rule s E mv) : (m_wf E ∧ m_eqT s E ∧ E 9 = s 9 + 12) ∧ 0 ≤ mv ∧ mv ≤ 48 := by
  have w0 := wf.1.1
  obtain ⟨s2, s3, c, p, h2, h3, h⟩ := h
  have w1 := m_wf_mon wf (n := s 9 + 12) (by omega)
  have e1 : m_eqT s (u1 s 9 (s 9 + 12)) := fun k hk => by rw [u1g, if_neg (by omega)]
  have e19 : u1 s 9 (s 9 + 12) 9 = s 9 + 12 := by rw [u1g, if_pos rfl]
  have k2 := (y_K_dth (F := F) (seed := seed) (wh := wh) w1 (s 7).toNat).1
  rw [← h2] at k2
  obtain ⟨k3, cp⟩ := y_K_cm k2.1 h3
  have fin : ∀ {D : Int → Int}, y_K s3 D → m_wf D ∧ m_eqT s D ∧ D 9 = s 9 + 12 := fun kd => by
    have t := y_K_t (y_K_t k2 k3) kd
    exact ⟨t.1, fun k hk => (t.2.1 k hk).trans (e1 k hk), t.2.2.trans e19⟩
  rcases h with ⟨-, s4, m1, m2, h4, h5, h6⟩ | ⟨-, h4⟩ | ⟨-, -, s4, h4, h5⟩
  · have k4 : y_K s3 s4 ∧ 0 ≤ m1 ∧ m1 ≤ 24 := by
      rcases h4 with ⟨a, b, d⟩ | ⟨a, b⟩
      · subst b; exact ⟨y_K_rf k3.1, by omega, by omega⟩
      · exact y_K_ls k3.1 cp b
    have k5 := y_K_ls k4.1.1 y_cp0 h5
    exact ⟨fin (y_K_t k4.1 k5.1), by omega, by omega⟩
  · have k4 := y_K_st k3.1 cp h4
    exact ⟨fin k4.1, by omega, by omega⟩
  · have k4 := y_K_nr k3.1 cp h4
    rcases h5 with ⟨-, -, h5⟩ | ⟨-, h5, h6⟩
    · have k5 := y_K_ls k4.1 y_cp0 h5
      exact ⟨fin (y_K_t k4 k5.1), by omega, by omega⟩
    · subst h5
      exact ⟨fin k4, by omega, by omega⟩
end
