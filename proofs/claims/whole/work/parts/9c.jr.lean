section
/-! reading, both: the code -/
theorem z_ro_m {op va : Int → Int} : ∀ (C : List Int) (k : Int) (d e : Nat), z_dp C d e → z_ro op va k C → z_at (m_c op va) k C ∧ ∀ j, k ≤ j → j < k + C.length → o_ok op va j
  | [], k, d, e, _, _ => ⟨trivial, fun j x y => by have : (([] : List Int).length : Int) = 0 := rfl; omega⟩
  | x :: r, k, d, e, hd, ⟨⟨o1, o2⟩, ⟨v1, v2⟩⟩ => by
    have hl := z_len x r
    have key : ∀ d' : Nat, z_dp r d' e → m_c op va k = x → o_ok op va k → z_at (m_c op va) k (x :: r) ∧ ∀ j, k ≤ j → j < k + ((x :: r).length : Int) → o_ok op va j := by
      intro d' h1 h2 h3
      obtain ⟨i1, i2⟩ := z_ro_m r (k + 1) d' e h1 ⟨o2, v2⟩
      refine ⟨⟨h2, i1⟩, fun j p q => ?_⟩
      by_cases c : j = k
      · subst c
        exact h3
      · exact i2 j (by omega) (by omega)
    rcases hd with ⟨a1, a2, a3, a4⟩ | ⟨a1, a2, a3, a4⟩ | ⟨a1, a2, a3, a4⟩
    · have e1 : op k = 0 := by rw [o1]; unfold z_op; rw [if_pos a2]
      have e2 : va k = x := by rw [v1]; unfold z_va; rw [if_pos a2]
      refine key _ a4 ?_ (Or.inl ⟨e1, by omega, by omega⟩)
      unfold m_c
      rw [if_pos e1, e2]
    · have e1 : op k = 1 := by rw [o1]; unfold z_op; rw [if_neg (by omega), if_pos (by omega)]
      have e2 : va k = x - 10000 := by rw [v1]; unfold z_va; rw [if_neg (by omega), if_pos (by omega)]
      refine key _ a4 ?_ (Or.inr (Or.inl ⟨e1, by omega, by omega⟩))
      unfold m_c
      rw [if_neg (by omega), if_pos e1, e2]
      omega
    · have e1 : op k = x - 20004 := by rw [o1]; unfold z_op; rw [if_neg (by omega), if_neg (by omega)]
      refine key _ a4 ?_ (Or.inr (Or.inr ⟨by omega, by omega⟩))
      unfold m_c
      rw [if_neg (by omega), if_neg (by omega), e1]
      omega
theorem z_at_2 {g g' : Int → Int} : ∀ (C : List Int) (j k : Int), z_at g j C → z_at g' k C → ∀ i : Int, 0 ≤ i → i < C.length → g (j + i) = g' (k + i)
  | [], j, k, _, _, i, x, y => by have : (([] : List Int).length : Int) = 0 := rfl; omega
  | c :: r, j, k, ⟨h1, h2⟩, ⟨g1, g2⟩, i, x, y => by
    have hl := z_len c r
    by_cases e : i = 0
    · subst e
      rw [Int.add_zero, Int.add_zero, h1, g1]
    · have := z_at_2 r (j + 1) (k + 1) h2 g2 (i - 1) (by omega) (by omega)
      rw [show j + 1 + (i - 1) = j + i by omega, show k + 1 + (i - 1) = k + i by omega] at this
      exact this
theorem z_seg {F : m_F} {a e : Int} {C : List Int} (hz : z_ro F.1 F.2.1 a C) (hd : z_dp C 0 1) (h0 : 0 ≤ a) (he : e = a + C.length) (h5 : e ≤ 500) : m_seg F a e := by
  obtain ⟨m1, m2⟩ := z_ro_m C a 0 1 hd hz
  refine ⟨h0, by omega, h5, fun k x y => m2 k x (by omega), ?_⟩
  rw [show (e - a).toNat = C.length by omega]
  exact z_fk C a 0 hd m1
def zFi (F : m_F) (k o : Int) (l : z_L) : Prop := (m_ln F k = l.2.1 ∧ m_lo F k = zW l.2.2.1 ∧ m_lr F k = o) ∧ (0 ≤ m_la F k ∧ m_lb F k = m_la F k + l.2.2.2.1.length ∧ m_lc F k = m_lb F k + l.2.2.2.2.length ∧ m_lc F k ≤ 400) ∧ z_ro F.1 F.2.1 (m_la F k) l.2.2.2.1 ∧ z_ro F.1 F.2.1 (m_lb F k) l.2.2.2.2
def zFs (F : m_F) : Int → Int → List z_L → Prop
  | _, _, [] => True
  | k, o, l :: r => zFi F k o l ∧ zFs F (k + 1) (if z_ha r = 1 then o else o + 1) r
theorem zFi_ok {F : m_F} {k o : Int} {l : z_L} (hz : zFi F k o l) (hl : z_lok l) : m_lok F k := by
  obtain ⟨⟨a1, a2, a3⟩, ⟨b1, b2, b3, b4⟩, c1, c2⟩ := hz
  obtain ⟨l1, l2, l3, l4, l5⟩ := hl
  refine ⟨by rw [a1]; exact l2, ?_, z_seg c1 l4 b1 b2 (by omega), z_seg c2 l5 (by omega) b3 (by omega)⟩
  rw [a2]
  have : l.2.2.1 = 10 ∨ l.2.2.1 = 11 ∨ l.2.2.1 = 12 ∨ l.2.2.1 = 13 := by omega
  rcases this with e | e | e | e <;> rw [e]
  · exact Or.inl rfl
  · exact Or.inr (Or.inl rfl)
  · exact Or.inr (Or.inr (Or.inr rfl))
  · exact Or.inr (Or.inr (Or.inl rfl))
theorem zFs_h {F : m_F} {k o : Int} {r : List z_L} (hz : zFs F (k + 1) (if z_ha r = 1 then o else o + 1) r) (hr : r ≠ []) : m_lr F (k + 1) = if z_ha r = 1 then o else o + 1 := by
  cases r with
  | nil => exact absurd rfl hr
  | cons l r => exact hz.1.1.2.2
theorem r_rel_s {c : Int → Int} {F : m_F} {from' k j e : Int} {n : Nat} (j1 j2 j3 j4 : Int) (h1 : j1 = j + (m_lb F k - m_la F k) + (m_lc F k - m_lb F k) + 1) (h2 : ∀ i, 0 ≤ i → i < m_lb F k - m_la F k → c (j + i) = m_fc F (m_la F k + i)) (h3 : ∀ i, 0 ≤ i → i < m_lc F k - m_lb F k → c (j + (m_lb F k - m_la F k) + i) = m_fc F (m_lb F k + i)) (h4 : c (j1 - 1) = cw (m_lo F k)) (h5 : m_ln F k = 1 → c j1 = 20036 ∧ j2 = j1 + 1) (h6 : m_ln F k ≠ 1 → j2 = j1) (h7 : r_mid F from' k → c j2 = 20035 ∧ j3 = j2 + 1) (h8 : ¬ r_mid F from' k → j3 = j2)
    (h9 : ((n = 0 ∨ m_lr F (k + 1) ≠ m_lr F k) ∧ m_lr F k ≠ m_lr F from') → c j3 = 20034 ∧ j4 = j3 + 1) (h10 : ¬ ((n = 0 ∨ m_lr F (k + 1) ≠ m_lr F k) ∧ m_lr F k ≠ m_lr F from') → j4 = j3) (h11 : r_rel c F from' n (k + 1) j4 e) : r_rel c F from' (n + 1) k j e := ⟨j1, j2, j3, j4, h1, h2, h3, h4, h5, h6, h7, h8, h9, h10, h11⟩
theorem z_lw_at {c : Int → Int} {l : z_L} {j : Int} (h : z_at c j (z_lw l)) : z_at c j l.2.2.2.1 ∧ z_at c (j + l.2.2.2.1.length) l.2.2.2.2 ∧ c (j + l.2.2.2.1.length + l.2.2.2.2.length) = 20000 + l.2.2.1 ∧ z_at c (j + l.2.2.2.1.length + l.2.2.2.2.length + 1) (if l.2.1 = 1 then [20036] else []) ∧ z_at c (j + l.2.2.2.1.length + l.2.2.2.2.length + 1 + ((if l.2.1 = 1 then [20036] else [] : List Int).length : Int)) (if l.1 = 1 then [20035] else []) := by
  unfold z_lw at h
  obtain ⟨x1, x2⟩ := z_at_l _ _ _ h
  obtain ⟨x3, x4⟩ := z_at_l _ _ _ x2
  obtain ⟨x5, x6⟩ := x4
  obtain ⟨x7, x8⟩ := z_at_l _ _ _ x6
  exact ⟨x1, x3, x5, x7, x8⟩
theorem z_rw_c {l : z_L} {r : List z_L} {o : Int} : z_rw (l :: r) o = z_lw l ++ (if z_ha r = 1 then z_rw r o else (if o = 1 then [20034] else []) ++ z_rw r 1) := rfl
theorem r_rel_z {c : Int → Int} {F : m_F} {fr : Int} (h0 : m_lr F fr = 0) (L : List z_L) : ∀ (k o j e oo : Int), zFs F k o L → (∀ l ∈ L, z_lok l) → 0 ≤ o → fr ≤ k → (L ≠ [] → (r_mid F fr k ↔ z_ha L = 1)) → ((oo = 1 ↔ o ≠ 0) ∧ (oo = 0 ∨ oo = 1)) → z_at c j (z_rw L oo) → e = j + (z_rw L oo).length → r_rel c F fr L.length k j e := by
  induction L with
  | nil =>
    intro k o j e oo _ _ _ _ _ _ _ he
    have he : e = j + 0 := he
    show j = e
    omega
  | cons l r ih =>
    intro k o j e oo hz hl ho hk hm hoo hat he
    have hlk := hl l (by simp)
    obtain ⟨⟨⟨a1, a2, a3⟩, ⟨b1, b2, b3, b4⟩, c1, c2⟩, hr⟩ := hz
    have hw := z_lw_len hlk
    obtain ⟨l1, l2, l3, l4, l5⟩ := hlk
    have hm := hm (by simp)
    have hm : r_mid F fr k ↔ l.1 = 1 := hm
    rw [z_rw_c] at hat he
    obtain ⟨w1, p3⟩ := z_at_l _ _ _ hat
    rw [z_lena] at he
    obtain ⟨x1, x3, x5, p1, p2⟩ := z_lw_at w1
    have m1 := (z_ro_m l.2.2.2.1 (m_la F k) 0 1 l4 c1).1
    have m2 := (z_ro_m l.2.2.2.2 (m_lb F k) 0 1 l5 c2).1
    have y1 := z_at_2 _ _ _ x1 m1
    have y2 := z_at_2 _ _ _ x3 m2
    have lc : z_lc l = l.2.2.2.1.length + l.2.2.2.2.length := rfl
    have eA : m_lb F k - m_la F k = l.2.2.2.1.length := by omega
    have eB : m_lc F k - m_lb F k = l.2.2.2.2.length := by omega
    have ecw : cw (m_lo F k) = 20000 + l.2.2.1 := by
      rw [a2]
      have : l.2.2.1 = 10 ∨ l.2.2.1 = 11 ∨ l.2.2.1 = 12 ∨ l.2.2.1 = 13 := by omega
      rcases this with e | e | e | e <;> rw [e] <;> rfl
    have hend : ((r.length = 0 ∨ m_lr F (k + 1) ≠ m_lr F k) ∧ m_lr F k ≠ m_lr F fr) ↔ (¬ z_ha r = 1 ∧ oo = 1) := by
      rw [a3, h0, hoo.1]
      by_cases hn : r = []
      · subst hn
        exact ⟨fun x => ⟨by show ¬ (0 : Int) = 1; decide, x.2⟩, fun x => ⟨Or.inl rfl, x.2⟩⟩
      · have hn' : r.length ≠ 0 := fun x => hn (List.eq_nil_of_length_eq_zero x)
        rw [zFs_h hr hn]
        by_cases z : z_ha r = 1
        · rw [if_pos z]
          exact ⟨fun x => x.1.elim (fun y => absurd y hn') (fun y => absurd rfl y), fun x => absurd z x.1⟩
        · rw [if_neg z]
          exact ⟨fun x => ⟨z, x.2⟩, fun x => ⟨Or.inr (by omega), x.2⟩⟩
    have hmid : r ≠ [] → (r_mid F fr (k + 1) ↔ z_ha r = 1) := by
      intro hn
      have e1 : m_lr F (k + 1 - 1) = o := by rw [show k + 1 - 1 = k by omega]; exact a3
      have e2 := zFs_h hr hn
      by_cases z : z_ha r = 1
      · rw [if_pos z] at e2
        exact ⟨fun _ => z, fun _ => ⟨by omega, by omega⟩⟩
      · rw [if_neg z] at e2
        exact ⟨fun x => by have := x.2; omega, fun x => absurd x z⟩
    have q1 : (((if l.2.1 = 1 then [20036] else [] : List Int).length : Nat) : Int) = l.2.1 := by
      rcases l2 with z | z
      · rw [z]; rfl
      · rw [z]; rfl
    rw [q1] at p2
    have lr' : ∀ l ∈ r, z_lok l := fun y hy => hl y (by simp [hy])
    generalize hj1 : j + (l.2.2.2.1.length : Int) + (l.2.2.2.2.length : Int) + 1 = j1 at p1 p2
    have p3 : z_at c (j1 + l.2.1 + l.1) (if z_ha r = 1 then z_rw r oo else (if oo = 1 then [20034] else []) ++ z_rw r 1) := by
      rw [show j1 + l.2.1 + l.1 = j + ((z_lw l).length : Int) by omega]
      exact p3
    have he2 : e = j1 + l.2.1 + l.1 + ((if z_ha r = 1 then z_rw r oo else (if oo = 1 then [20034] else []) ++ z_rw r 1).length : Int) := by omega
    have core : ∀ j4, ((¬ z_ha r = 1 ∧ oo = 1) → c (j1 + l.2.1 + l.1) = 20034 ∧ j4 = j1 + l.2.1 + l.1 + 1) → (¬ (¬ z_ha r = 1 ∧ oo = 1) → j4 = j1 + l.2.1 + l.1) → r_rel c F fr r.length (k + 1) j4 e → r_rel c F fr (r.length + 1) k j e := by
      intro j4 g1 g2 g3
      refine r_rel_s j1 (j1 + l.2.1) (j1 + l.2.1 + l.1) j4 (by omega) (fun i x y => y1 i x (by omega)) (fun i x y => ?_) ?_ (fun z => ?_) (fun z => by omega) (fun z => ?_) (fun z => ?_) (fun z => g1 (hend.mp z)) (fun z => g2 (fun x => z (hend.mpr x))) g3
      · rw [eA]
        exact y2 i x (by omega)
      · rw [ecw, show j1 - 1 = j + (l.2.2.2.1.length : Int) + l.2.2.2.2.length by omega]
        exact x5
      · rw [a1] at z
        rw [if_pos z] at p1
        exact ⟨p1.1, by omega⟩
      · have z := hm.mp z
        rw [if_pos z] at p2
        exact ⟨p2.1, by omega⟩
      · have z : ¬ l.1 = 1 := fun x => z (hm.mpr x)
        omega
    show r_rel c F fr (r.length + 1) k j e
    by_cases z : z_ha r = 1
    · rw [if_pos z] at p3 he2 hr
      exact core (j1 + l.2.1 + l.1) (fun x => absurd z x.1) (fun _ => rfl) (ih (k + 1) o _ e oo hr lr' ho (by omega) hmid hoo p3 he2)
    · rw [if_neg z] at p3 he2 hr
      have on : ((1 : Int) = 1 ↔ o + 1 ≠ 0) ∧ ((1 : Int) = 0 ∨ (1 : Int) = 1) := ⟨⟨fun _ => by omega, fun _ => rfl⟩, Or.inr rfl⟩
      by_cases z2 : oo = 1
      · rw [if_pos z2] at p3 he2
        have hl1 : ((([20034] ++ z_rw r 1).length : Nat) : Int) = 1 + (z_rw r 1).length := z_lena _ _
        exact core (j1 + l.2.1 + l.1 + 1) (fun _ => ⟨p3.1, rfl⟩) (fun x => absurd ⟨z, z2⟩ x) (ih (k + 1) (o + 1) _ e 1 hr lr' (by omega) (by omega) hmid on p3.2 (by omega))
      · rw [if_neg z2] at p3 he2
        exact core (j1 + l.2.1 + l.1) (fun x => absurd x.2 z2) (fun _ => rfl) (ih (k + 1) (o + 1) _ e 1 hr lr' (by omega) (by omega) hmid on p3 he2)
end
