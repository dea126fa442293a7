section
/-! what lies behind stays -/
variable {xs : Nat → Int32} {xl : Nat} {I J : w_I} {b : Bool} {Q : Option Value → w_I → w_I → Bool → Prop}
variable {s : Int → Int}
abbrev m_hi (s E : Int → Int) : Prop := ∀ k, 700 ≤ k → E k = s k
theorem hi_t {E D : Int → Int} (h : m_hi s E) (h' : m_hi E D) : m_hi s D := fun k x => (h' k x).trans (h k x)
theorem hi_oh {E : Int → Int} (wf : m_wf s) (h : m_oh s E) : m_hi s E := fun k x => h k (fun f hf => by
  have w0 := wf.1.1
  have := hf.2.1
  omega)
theorem hi_die {p : Int} (wf : m_wf s) (hp : m_isP s p) : m_hi s (m_die s p) := fun k x => by
  have w0 := wf.1.1
  have p1 := hp.1
  have p2 := hp.2.1
  have w2 := wf.1.2.2.1 p p1 p2
  exact m_die_r (by omega) (by omega)
theorem hi_join {p g : Int} (wf : m_wf s) (hp : m_isP s p) (hg : m_isF s g) : m_hi s (m_join s p g) := fun k x => by
  have w0 := wf.1.1
  have p1 := hp.1
  have p2 := hp.2.1
  have w2 := wf.1.2.2.1 p p1 p2
  unfold m_join m_lv
  split
  · rw [u1g, if_neg (by omega), u1g, if_neg (by omega)]
  · rw [u1g, if_neg (by omega)]
theorem eT_join {p g : Int} (wf : m_wf s) (hp : m_isP s p) (hg : m_isF s g) : m_eqT s (m_join s p g) := fun k x => by
  have w0 := wf.1.1
  have p1 := hp.1
  have p2 := hp.2.1
  have w2 := wf.1.2.2.1 p p1 p2
  unfold m_join m_lv
  split
  · rw [u1g, if_neg (by omega), u1g, if_neg (by omega)]
  · rw [u1g, if_neg (by omega)]
theorem hi_enter {y t l : Int} (wf : m_wf s) (a7 : s 7 < 60) (a8 : s 8 < 30) : m_hi s (m_enter s y t l) := fun k x => by
  have w0 := wf.1.1
  unfold m_enter
  rw [if_neg (by omega), if_neg (by omega), if_neg (by omega), if_neg (by omega), if_neg (by omega), if_neg (by omega), if_neg (by omega), if_neg (by omega), if_neg (by omega), if_neg (by omega), if_neg (by omega)]
theorem eT_enter {y t l : Int} (wf : m_wf s) (a7 : s 7 < 60) (a8 : s 8 < 30) : m_eqT s (m_enter s y t l) := fun k x => by
  have w0 := wf.1.1
  unfold m_enter
  rw [if_neg (by omega), if_neg (by omega), if_neg (by omega), if_neg (by omega), if_neg (by omega), if_neg (by omega), if_neg (by omega), if_neg (by omega), if_neg (by omega), if_neg (by omega), if_neg (by omega)]
theorem hi_dth {F : m_F} {seed wh : Int} (wf : m_wf s) : ∀ p : Nat, m_hi s (m_dth F seed wh s p)
  | 0 => fun _ _ => rfl
  | p + 1 => by
    have ih := hi_dth (F := F) (seed := seed) (wh := wh) wf p
    have w := (y_K_dth (F := F) (seed := seed) (wh := wh) wf p).1.1
    rw [m_dth_s]
    split
    · rename_i h
      exact hi_t ih (hi_die w h.1)
    · exact ih
theorem hi_cm {seed wh c p : Int} {E : Int → Int} (wf : m_wf s) (h : y_cm s seed wh E c p) : m_hi s E := by
  rcases h with ⟨a, b, d, e⟩ | ⟨a, b, d, e⟩
  · subst b
    exact hi_enter wf (by unfold y_in at a; omega) (by unfold y_in at a; omega)
  · subst b
    exact fun _ _ => rfl
theorem hi_ls {F : m_F} {c p mv : Int} {E : Int → Int} (wf : m_wf s) (hc : y_cp s c p) (h : y_ls F s c p E mv) : m_hi s E := by
  obtain ⟨n, r, hr, h⟩ := h
  rcases h with ⟨a, b, -⟩ | ⟨a, -, ⟨b, d⟩ | ⟨b, d⟩⟩
  · subst b
    exact hi_oh wf (m_set_oh (y_cp_m hc) hr)
  · subst d
    exact fun _ _ => rfl
  · subst d
    rcases hc with hc | hc
    · exact absurd hc.1 b
    · exact hi_die wf hc.2.1
theorem hi_st {c p mv : Int} {E : Int → Int} (wf : m_wf s) (hc : y_cp s c p) (h : y_st s c p E mv) : m_hi s E := by
  obtain ⟨n, r, hr, h⟩ := h
  rcases h with ⟨h1, h2, h3⟩ | ⟨h1, h2, h3, h4⟩ | ⟨h1, h2, r1, hr1, h3, h4⟩
  · subst h2
    exact hi_oh wf (m_set_oh (Or.inl rfl) hr)
  · have pp : m_isP s p := by
      rcases hc with hc | hc
      · exact absurd hc.1 h1
      · exact hc.2.1
    have d := y_K_die wf pp
    have hr' := (y_die_row wf hc h1).mpr hr
    subst h3
    exact hi_t (hi_die wf pp) (hi_oh d.1.1 (m_set_oh (Or.inl rfl) hr'))
  · subst h3
    exact hi_oh wf (m_set_oh (y_cp_m hc) hr1)
theorem hi_nr {c p : Int} {E : Int → Int} (wf : m_wf s) (hc : y_cp s c p) (h : y_nr s c p E) : m_hi s E := by
  have w0 := wf.1.1
  rcases h with ⟨h1, h2⟩ | ⟨h1, h2⟩
  · subst h2
    exact fun _ _ => rfl
  · rcases hc with hc | hc
    · exact absurd hc.1 h1
    · have c0 := hc.1.1.1
      have c1 := hc.1.1.2.1
      rcases h2 with ⟨a, b⟩ | ⟨a, b⟩
      · subst b
        exact hi_die wf hc.2.1
      · subst b
        exact fun k hk => by rw [u1g, if_neg (by omega)]
theorem hi_yr {F : m_F} {seed wh rule mv : Int} {E : Int → Int} (wf : m_wf s) (h9 : s 9 + 12 ≤ 1200) (h : y_yr F seed wh rule s E mv) : m_hi s E := by
  have w0 := wf.1.1
  obtain ⟨s2, s3, c, p, h2, h3, h⟩ := h
  have w1 := m_wf_mon wf (n := s 9 + 12) (by omega)
  have e1 : m_hi s (u1 s 9 (s 9 + 12)) := fun k hk => by rw [u1g, if_neg (by omega)]
  have k2 := (y_K_dth (F := F) (seed := seed) (wh := wh) w1 (s 7).toNat).1
  have e2 := hi_dth (F := F) (seed := seed) (wh := wh) w1 (s 7).toNat
  rw [← h2] at k2 e2
  obtain ⟨k3, cp⟩ := y_K_cm k2.1 h3
  have e3 := hi_t (hi_t e1 e2) (hi_cm k2.1 h3)
  rcases h with ⟨-, s4, m1, m2, h4, h5, h6⟩ | ⟨-, h4⟩ | ⟨-, -, s4, h4, h5⟩
  · have k4 : m_wf s4 ∧ m_hi s3 s4 := by
      rcases h4 with ⟨a, b, d⟩ | ⟨a, b⟩
      · subst b; exact ⟨k3.1, fun _ _ => rfl⟩
      · exact ⟨(y_K_ls k3.1 cp b).1.1, hi_ls k3.1 cp b⟩
    exact hi_t (hi_t e3 k4.2) (hi_ls k4.1 y_cp0 h5)
  · exact hi_t e3 (hi_st k3.1 cp h4)
  · have k4 := y_K_nr k3.1 cp h4
    have e4 := hi_t e3 (hi_nr k3.1 cp h4)
    rcases h5 with ⟨-, -, h5⟩ | ⟨-, h5, h6⟩
    · exact hi_t e4 (hi_ls k4.1 y_cp0 h5)
    · subst h5
      exact e4
theorem hi_ys {F : m_F} {seed rule : Int} : ∀ (k : Nat) (i mv : Int) (s E : Int → Int), m_wf s → s 9 + 12 * k ≤ 1200 → y_ys F seed rule k i s E mv → m_hi s E ∧ m_wf E ∧ m_eqT s E
  | 0, i, mv, s, E, wf, h9, h => by
    rw [h.1]
    exact ⟨fun _ _ => rfl, wf, fun _ _ => rfl⟩
  | k + 1, i, mv, s, E, wf, h9, ⟨s1, m1, m2, h1, h2, h3⟩ => by
    have a := y_yr_ok wf (by omega) h1
    obtain ⟨b1, b2, b3⟩ := hi_ys k (i + 1) m2 s1 E a.1.1 (by have := a.1.2.2; omega) h2
    exact ⟨hi_t (hi_yr wf (by omega) h1) b1, b2, fun k hk => (b3 k hk).trans (a.1.2.1 k hk)⟩
theorem eT_die {p : Int} (wf : m_wf s) (hp : m_isP s p) : m_eqT s (m_die s p) := (y_K_die wf hp).1.2.1
end
