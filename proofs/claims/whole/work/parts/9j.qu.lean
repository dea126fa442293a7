section
/-! the calls, both sides: queries -/
variable {xs : Nat → Int32} {xl : Nat} {I J : w_I} {b : Bool} {Q : Option Value → w_I → w_I → Bool → Prop}
variable {s : Int → Int}
theorem RR_x (R : RR I) {I1 I2 : w_I} (g1 : Ag I I1 ∧ I1 110 = I 110) (r1 : c_rf 20 I1 (I 110)) (g2 : Ag I1 I2) (e2 : I2 110 = I1 110) (r2 : c_rf 20 I1 (I 110) → c_rf 20 I2 (I 110)) : RR I2 := RR_q R (Ag_t g1.1 g2) (e2.trans g1.2) (r2 r1)
theorem k_place (R : RR I) : Both xs xl 122 [.ref 0] 201 [.ref 104] I := by
  intro J b Q k
  have pl := R.2.2.2.2
  refine e122 (b122_0 (k _ I J b (fun Q2 q => ?_)))
  refine e201 (b201_0 ?_)
  rw [← pl]
  exact q I J b R
theorem k_house {h a : Int} (R : RR I) (hh : w_in h) (ha : w_in a) : Both xs xl 123 [.ref 0, w_i h, w_i a] 219 [.ref 104, w_i h, w_i a] I := fun J b Q k =>
  c123 R.1.2.1 R.1.2.2.1 R.1.1 hh ha (k _ I J b (fun Q2 q => s219 rfl R.1.1 hh ha (q I J b R)))
theorem k_person {p a : Int} (R : RR I) (hp : w_in p) (ha : w_in a) : Both xs xl 127 [.ref 0, w_i p, w_i a] 226 [.ref 104, w_i p, w_i a] I := fun J b Q k =>
  c127 R.1.2.1 R.1.1.1 hp ha (k _ I J b (fun Q2 q => s226 rfl R.1.1.1 hp ha (q I J b R)))
theorem k_family {f a : Int} (R : RR I) (hf : w_in f) (ha : w_in a) : Both xs xl 128 [.ref 0, w_i f, w_i a] 227 [.ref 104, w_i f, w_i a] I := fun J b Q k =>
  c128 R.1.2.1 R.1.2.2.1 R.1.1 hf ha (fun I1 f1 => k _ I1 J b (fun Q2 q => s227 (Ag_pA f1).2 R.1.1 hf ha (fun I2 f2 => q I2 J b (RR_x R (Ag_pA f1) (fo_pA f1 R.1.2.1) (Ag_p216 f2) (st_p216 f2) (fo_p216 f2)))))
theorem k_unlawful {wh : Int} (R : RR I) (hw : w_in wh) : Both xs xl 132 [.ref 0, w_i wh] 234 [.ref 104, w_i wh] I := fun J b Q k => by
  have ht : (wh = 1 → (if wh = 1 then (1 : Int) else 0) = 1) ∧ (wh ≠ 1 → (if wh = 1 then (1 : Int) else 0) = 0) := ⟨fun e => if_pos e, fun e => if_neg e⟩
  have hby : (wh = 2 → (if wh = 2 then 1 - I 110 3 else I 110 3) = 1 - I 110 3) ∧ (wh ≠ 2 → (if wh = 2 then 1 - I 110 3 else I 110 3) = I 110 3) := ⟨fun e => if_pos e, fun e => if_neg e⟩
  have hU : ∀ a d, 0 ≤ a → a < d → d < I 110 0 → ((fun a d => @decide (m_unl (RF I) (I 110) (if wh = 1 then (1 : Int) else 0) (if wh = 2 then 1 - I 110 3 else I 110 3) a d) (Classical.propDecidable _)) a d = true ↔ m_unl (RF I) (I 110) (if wh = 1 then (1 : Int) else 0) (if wh = 2 then 1 - I 110 3 else I 110 3) a d) := fun a d _ _ _ => @decide_eq_true_iff _ (Classical.propDecidable _)
  exact c132 R.1.2.1 R.1.2.2.1 R.1.1 R.1.2.2.2 hw ht hby hU (fun I1 f1 => k _ I1 J b (fun Q2 q => s234 (Ag_pX f1).2 (at_g (Ag_pX f1).1) R.1.1 (c_m_cd R.1.2.2.2) hw ht hby hU (fun I2 f2 => q I2 J b (RR_x R (Ag_pX f1) (fo_pX f1 R.1.2.1) (Ag_pU f2) (st_pU f2) (fo_pU f2)))))
theorem u_scan_n {U : Int → Int → Bool} {H i : Int} (hi : i < 0) : ∀ (f : Nat) (a d n : Int), 0 ≤ n → (u_scan U H i f a d n).1 = -1
  | 0, a, d, n, h => rfl
  | f + 1, a, d, n, h => by
    unfold u_scan
    split
    · split
      · rw [if_neg (by omega)]
        exact u_scan_n hi f a (d + 1) (n + 1) (by omega)
      · exact u_scan_n hi f a (d + 1) n h
    · split
      · exact u_scan_n hi f (a + 1) (a + 2) n h
      · rfl
theorem k_pair {i : Int} (R : RR I) (hi : w_in i) : Both xs xl 133 [.ref 0, w_i i] 235 [.ref 104, w_i i] I := fun J b Q k => by
  have hU : ∀ a d, 0 ≤ a → a < d → d < I 110 0 → ((fun a d => @decide (m_unl (RF I) (I 110) 0 (I 110 3) a d) (Classical.propDecidable _)) a d = true ↔ m_unl (RF I) (I 110) 0 (I 110 3) a d) := fun a d _ _ _ => @decide_eq_true_iff _ (Classical.propDecidable _)
  refine c133 R.1.2.1 R.1.2.2.1 R.1.1 R.1.2.2.2 hi hU (fun I1 f1 => ?_)
  by_cases c : 0 ≤ i
  · rw [if_pos c]
    exact k _ I1 J b (fun Q2 q => s235 (Ag_pX f1).2 (at_g (Ag_pX f1).1) R.1.1 (c_m_cd R.1.2.2.2) hi hU (fun I2 f2 => q I2 J b (RR_x R (Ag_pX f1) (fo_pX f1 R.1.2.1) (Ag_pU f2) (st_pU f2) (fo_pU f2))))
  · rw [if_neg c]
    refine k _ I1 J b (fun Q2 q => s235 (Ag_pX f1).2 (at_g (Ag_pX f1).1) R.1.1 (c_m_cd R.1.2.2.2) hi hU (fun I2 f2 => ?_))
    rw [u_scan_n (by omega) _ _ _ _ (Int.le_refl _)]
    exact q I2 J b (RR_x R (Ag_pX f1) (fo_pX f1 R.1.2.1) (Ag_pU f2) (st_pU f2) (fo_pU f2))
theorem k_row {i : Int} (R : RR I) (hi : w_in i) : Both xs xl 134 [.ref 0, w_i i] 240 [.ref 104, w_i i] I := fun J b Q k =>
  c134 R.1.2.1 R.1.2.2.1 R.1.1 hi (fun n r hr I1 f1 => k _ I1 J b (fun Q2 q => s240 (Ag_pZ f1).2 R.1.1 hi hr (fun I2 f2 => q I2 J b (RR_x R (Ag_pZ f1) (fo_pZ f1 R.1.2.1) (Ag_pR f2) (st_pR f2) (fo_pR f2)))))
theorem k_least {c a : Int} (R : RR I) (hc : w_in c) (ha : w_in a) : Both xs xl 135 [.ref 0, w_i c, w_i a] 247 [.ref 104, w_i c, w_i a] I := fun J b Q k => by
  have fin : ∀ {I1 I2 : w_I}, w_fr pE I I1 → w_fr pP I1 I2 → RR I2 := fun f1 f2 => RR_x R (Ag_pE f1) (fo_pE f1 R.1.2.1) (Ag_pP f2) (st_pP f2) (fo_pP f2)
  refine c135 R.1.2.1 R.1.2.2.1 R.1.1 R.1.2.2.2 hc ha (fun h => k _ I J b (fun Q2 q => ?_)) (fun h1 h2 n r hr h3 h4 I1 f1 => k _ I1 J b (fun Q2 q => ?_)) (fun h1 h2 n r hr h3 I1 f1 => k _ I1 J b (fun Q2 q => ?_))
  · exact s247 (n := 0) (r := fun _ => 0) rfl RF_at R.1.1 (c_m_cd R.1.2.2.2) hc ha (fun h1 h2 => absurd ⟨h1, h2⟩ h) (fun _ => q I J b R) (fun h1 h2 => absurd ⟨h1, h2⟩ h) (fun h1 h2 => absurd ⟨h1, h2⟩ h)
  · exact s247 (Ag_pE f1).2 (at_g (Ag_pE f1).1) R.1.1 (c_m_cd R.1.2.2.2) hc ha (fun _ _ => hr) (fun h => absurd ⟨h1, h2⟩ h) (fun _ _ _ _ I2 f2 => q I2 J b (fin f1 f2)) (fun _ _ h => absurd h (fun x => x.elim h3 (fun y => by omega)))
  · exact s247 (Ag_pE f1).2 (at_g (Ag_pE f1).1) R.1.1 (c_m_cd R.1.2.2.2) hc ha (fun _ _ => hr) (fun h => absurd ⟨h1, h2⟩ h) (fun _ _ h4 h5 => h3.elim (fun x => absurd x h4) (fun y => by omega)) (fun _ _ _ I2 f2 => q I2 J b (fin f1 f2))
theorem k_leastAt {c f : Int} (R : RR I) (hc : w_in c) (hf : w_in f) : Both xs xl 136 [.ref 0, w_i c, w_i f] 248 [.ref 104, w_i c, w_i f] I := fun J b Q k => by
  have fin : ∀ {I1 I2 : w_I}, w_fr pE I I1 → w_fr pP I1 I2 → RR I2 := fun f1 f2 => RR_x R (Ag_pE f1) (fo_pE f1 R.1.2.1) (Ag_pP f2) (st_pP f2) (fo_pP f2)
  refine c136 R.1.2.1 R.1.2.2.1 R.1.1 R.1.2.2.2 hc hf (fun h => k _ I J b (fun Q2 q => ?_)) (fun h1 n r hr h3 h4 I1 f1 => k _ I1 J b (fun Q2 q => ?_)) (fun h1 n r hr h3 I1 f1 => k _ I1 J b (fun Q2 q => ?_))
  · exact s248 (n := 0) (r := fun _ => 0) rfl RF_at R.1.1 (c_m_cd R.1.2.2.2) hc hf (fun h1 => absurd h1 h) (fun _ => q I J b R) (fun h1 => absurd h1 h) (fun h1 => absurd h1 h)
  · exact s248 (Ag_pE f1).2 (at_g (Ag_pE f1).1) R.1.1 (c_m_cd R.1.2.2.2) hc hf (fun _ => hr) (fun h => absurd h1 h) (fun _ _ _ I2 f2 => q I2 J b (fin f1 f2)) (fun _ h => absurd h (fun x => x.elim h3 (fun y => by omega)))
  · exact s248 (Ag_pE f1).2 (at_g (Ag_pE f1).1) R.1.1 (c_m_cd R.1.2.2.2) hc hf (fun _ => hr) (fun h => absurd h1 h) (fun _ h4 h5 => h3.elim (fun x => absurd x h4) (fun y => by omega)) (fun _ _ I2 f2 => q I2 J b (fin f1 f2))
theorem RR_KJ (R : RR I) {I1 I2 : w_I} (f1 : w_fr pK I I1) (f2 : w_fr pJ I1 I2) : RR I2 := RR_x R (Ag_pK f1) (fo_pK f1 R.1.2.1) (Ag_pJ f2) (st_pJ f2) (fo_pJ f2)
theorem RR_J (R : RR I) {I2 : w_I} (f2 : w_fr pJ I I2) : RR I2 := RR_x R ⟨Ag_r, rfl⟩ R.1.2.1 (Ag_pJ f2) (st_pJ f2) (fo_pJ f2)
theorem k_steps {st : Int} (R : RR I) (hs : w_in st) : Both xs xl 138 [.ref 0, w_i st] 251 [.ref 104, w_i st] I := fun J b Q k => by
  refine c138 R.1.2.1 R.1.2.2.1 R.1.1 hs (fun h => k _ I J b (fun Q2 q => ?_)) (fun h1 h2 => k _ I J b (fun Q2 q => ?_)) (fun h1 h2 n r hr I1 f1 => k _ I1 J b (fun Q2 q => ?_))
  · exact s251 (n := 0) (r := fun _ => 0) rfl RF_at R.1.1 (c_m_cd R.1.2.2.2) hs (fun h1 => absurd h1 h) (fun _ => q I J b R) (fun h1 => absurd h1 h) (fun h1 => absurd h1 h)
  · exact s251 (n := 0) (r := fun _ => 0) rfl RF_at R.1.1 (c_m_cd R.1.2.2.2) hs (fun _ h => absurd h2 h) (fun h => absurd h1 h) (fun _ _ I2 f2 => q I2 J b (RR_J R f2)) (fun _ h => absurd h2 h)
  · exact s251 (Ag_pK f1).2 (at_g (Ag_pK f1).1) R.1.1 (c_m_cd R.1.2.2.2) hs (fun _ _ => hr) (fun h => absurd h1 h) (fun _ h => absurd h h2) (fun _ _ I2 f2 => q I2 J b (RR_KJ R f1 f2))
theorem k_mean (R : RR I) : Both xs xl 139 [.ref 0] 253 [.ref 104] I := fun J b Q k => by
  refine c139 R.1.2.1 R.1.2.2.1 R.1.1 R.1.2.2.2 (fun h => k _ I J b (fun Q2 q => ?_)) (fun h2 n r hr I1 f1 => k _ I1 J b (fun Q2 q => ?_))
  · exact s253 (n := 0) (r := fun _ => 0) rfl RF_at R.1.1 (c_m_cd R.1.2.2.2) (fun h1 => absurd h h1) (fun _ => q I J b R) (fun h1 => absurd h h1)
  · exact s253 (Ag_pK f1).2 (at_g (Ag_pK f1).1) R.1.1 (c_m_cd R.1.2.2.2) (fun _ => hr) (fun h => absurd h h2) (fun _ I2 f2 => q I2 J b (RR_KJ R f1 f2))
theorem k_where {l : Int} (R : RR I) (hl : w_in l) : Both xs xl 140 [.ref 0, w_i l] 254 [.ref 104, w_i l] I := fun J b Q k => by
  refine c140 R.1.2.1 R.1.2.2.1 R.1.1 R.1.2.2.2 hl (fun h => k _ I J b (fun Q2 q => ?_)) (fun h2 n r hr I1 f1 => k _ I1 J b (fun Q2 q => ?_))
  · exact s254 (n := 0) (r := fun _ => 0) rfl RF_at R.1.1 (c_m_cd R.1.2.2.2) hl (fun h1 => absurd h h1) (fun _ => q I J b R) (fun h1 => absurd h h1)
  · exact s254 (Ag_pK f1).2 (at_g (Ag_pK f1).1) R.1.1 (c_m_cd R.1.2.2.2) hl (fun _ => hr) (fun h => absurd h h2) (fun _ I2 f2 => q I2 J b (RR_KJ R f1 f2))
theorem k_gap (R : RR I) : Both xs xl 141 [.ref 0] 255 [.ref 104] I := fun J b Q k => by
  refine c141 R.1.2.1 R.1.2.2.1 R.1.1 R.1.2.2.2 (fun h => k _ I J b (fun Q2 q => ?_)) (fun h2 n r hr I1 f1 => k _ I1 J b (fun Q2 q => ?_))
  · exact s255 (n := 0) (r := fun _ => 0) rfl RF_at R.1.1 (c_m_cd R.1.2.2.2) (fun h1 => absurd h h1) (fun _ => q I J b R) (fun h1 => absurd h h1)
  · exact s255 (Ag_pK f1).2 (at_g (Ag_pK f1).1) R.1.1 (c_m_cd R.1.2.2.2) (fun _ => hr) (fun h => absurd h h2) (fun _ I2 f2 => q I2 J b (RR_KJ R f1 f2))
theorem k_part {a : Int} (R : RR I) (ha : w_in a) : Both xs xl 142 [.ref 0, w_i a] 260 [.ref 104, w_i a] I := fun J b Q k => by
  refine c142 R.1.2.1 R.1.2.2.1 R.1.1 ha (fun h => k _ I J b (fun Q2 q => ?_)) (fun h1 h2 I1 f1 => k _ I1 J b (fun Q2 q => ?_)) (fun h1 h2 o best sg hr hp I1 b1 f1 => k _ I1 J b1 (fun Q2 q => ?_))
  · exact s260 (o := fun _ => 0) (best := 0) (sg := 0) rfl RF_at R.1.1 (c_m_cd R.1.2.2.2) ha (fun h1 => absurd h1 h) (fun _ => q I J b R) (fun h1 => absurd h1 h) (fun h1 => absurd h1 h)
  · exact s260 (o := fun _ => 0) (best := 0) (sg := 0) (Ag_pK f1).2 (at_g (Ag_pK f1).1) R.1.1 (c_m_cd R.1.2.2.2) ha (fun _ h => by omega) (fun h => absurd h1 h) (fun _ _ I2 f2 => q I2 J b (RR_KJ R f1 f2)) (fun _ h => by omega)
  · exact s260 (Ag_pK f1).2 (at_g (Ag_pK f1).1) R.1.1 (c_m_cd R.1.2.2.2) ha (fun _ _ => ⟨hr, hp⟩) (fun h => absurd h1 h) (fun _ h => by omega) (fun _ _ I2 f2 => q I2 J b1 (RR_KJ R f1 f2))
theorem k_worth {f h : Int} (R : RR I) (hf : w_in f) (hh : w_in h) : Both xs xl 147 [.ref 0, w_i f, w_i h] 270 [.ref 104, w_i f, w_i h] I := fun J b Q k => by
  refine c147 R.1.2.1 R.1.2.2.1 R.1.1 R.1.2.2.2 hf hh (fun h1 I1 f1 => k _ I1 J b (fun Q2 q => ?_)) (fun h1 => k _ I J b (fun Q2 q => ?_))
  · exact s270 (Ag_pY f1).2 (at_g (Ag_pY f1).1) R.1.1.1 (c_m_cd R.1.2.2.2) hf hh (fun _ I2 f2 => q I2 J b (RR_x R (Ag_pY f1) (fo_pY f1 R.1.2.1) (Ag_pN f2) (st_pN f2) (fo_pN f2))) (fun h => absurd h1 h)
  · exact s270 rfl RF_at R.1.1.1 (c_m_cd R.1.2.2.2) hf hh (fun h => absurd h h1) (fun _ => q I J b R)
theorem k_change {a : Int} (R : RR I) (ha : w_in a) : Both xs xl 148 [.ref 0, w_i a] 271 [.ref 104, w_i a] I := fun J b Q k => by
  refine c148 R.1.2.1 R.1.2.2.1 R.1.1 R.1.2.2.2 ha (fun h1 => k _ I J b (fun Q2 q => ?_)) (fun h1 I1 f1 => k _ I1 J b (fun Q2 q => ?_))
  · exact s271 rfl RF_at R.1.1 (c_m_cd R.1.2.2.2) ha (fun _ => q I J b R) (fun h => absurd h h1)
  · exact s271 (Ag_pK f1).2 (at_g (Ag_pK f1).1) R.1.1 (c_m_cd R.1.2.2.2) ha (fun h => absurd h1 h) (fun _ I2 f2 => q I2 J b (RR_KJ R f1 f2))
theorem k_waits {f n : Int} (R : RR I) (hf : w_in f) (hn : w_in n) : BothL xs xl 149 [.ref 0, w_i f, w_i n] 273 [.ref 104, w_i f, w_i n] I := fun J b Q k =>
  c149 R.1.2.1 R.1.2.2.1 R.1.1 R.1.2.2.2 hf hn (fun I1 f1 => k _ I1 J b (fun Q2 q => s273 (Ag_pK f1).2 (at_g (Ag_pK f1).1) R.1.1 (c_m_cd R.1.2.2.2) hf hn (fun I2 f2 => q I2 J b (RR_KJ R f1 f2))))
theorem RR_5J (R : RR I) {I1 I2 : w_I} (f1 : w_fr p51 I I1) (r1 : c_rf 20 I1 (I 110)) (f2 : w_fr pJ I1 I2) : RR I2 := RR_x R (Ag_p51 f1) r1 (Ag_pJ f2) (st_pJ f2) (fo_pJ f2)
theorem k_marry {f g l : Int} (R : RR I) (hf : w_in f) (hg : w_in g) (hl : w_in l) : Both xs xl 150 [.ref 0, w_i f, w_i g, w_i l] 275 [.ref 104, w_i f, w_i g, w_i l] I := fun J b Q k => by
  refine c150 R.1.2.1 R.1.2.2.1 R.1.1 hf hg hl (fun h => k _ I J b (fun Q2 q => ?_)) (fun h1 h2 => k _ I J b (fun Q2 q => ?_)) (fun h1 hh e1 e2 wk n r hr I1 f1 r1 => k _ I1 J b (fun Q2 q => ?_))
  · exact s275 (n := 0) (r := fun _ => 0) rfl RF_at R.1.1 (c_m_cd R.1.2.2.2) hf hg hl (fun _ hh _ _ wk => absurd ⟨wk.1, wk.2.1, wk.2.2.1⟩ h) (fun _ => q I J b R) (fun h1 => absurd h1 h) (fun _ hh _ _ wk => absurd ⟨wk.1, wk.2.1, wk.2.2.1⟩ h)
  · have no : ∀ {P : Prop} (hh : Int), ¬ m_tt (I 110) → m_wk (I 110) f g hh → P := fun hh a wk => h2.elim (fun x => absurd x a) (fun x => absurd wk.2.2.2.1 (by omega))
    exact s275 (n := 0) (r := fun _ => 0) rfl RF_at R.1.1 (c_m_cd R.1.2.2.2) hf hg hl (fun a hh _ _ wk => no hh a wk) (fun h => absurd h1 h) (fun _ _ I2 f2 => q I2 J b (RR_J R f2)) (fun a hh _ _ wk => no hh a wk)
  · have eh : ∀ hh', (l = 0 → hh' = I 110 (460 + 3 * f + 1)) → (l ≠ 0 → hh' = I 110 (460 + 3 * g + 1)) → hh' = hh := fun hh' a c => by
      by_cases z : l = 0
      · rw [a z, e1 z]
      · rw [c z, e2 z]
    refine s275 (n := n) (r := r) (Ag_p51 f1).2 (at_g (Ag_p51 f1).1) R.1.1 (c_m_cd R.1.2.2.2) hf hg hl (fun a hh' x y wk' => ?_) (fun h => absurd ⟨wk.1, wk.2.1, wk.2.2.1⟩ h) (fun _ h => absurd h (fun x => x.elim h1 (fun y => absurd wk.2.2.2.1 (by omega)))) (fun a hh' x y wk' I2 f2 => ?_)
    · rw [eh hh' x y]
      exact hr
    · rw [eh hh' x y]
      exact q I2 J b (RR_5J R f1 r1 f2)
theorem k_count {a : Int} (R : RR I) (ha : w_in a) : Both xs xl 154 [.ref 0, w_i a] 285 [.ref 104, w_i a] I := fun J b Q k => by
  obtain ⟨s0, s1⟩ := R.2.2.1
  have t1 := R.2.2.2.1.1.1
  have e0 : I 121 2 = I 49 0 := s0.2.1
  have e1 : I 121 3 = I 49 1 := s1.2.1
  refine c154 R.1.2.1 R.1.2.2.1 R.1.1 ha s0.1 s1.1 rfl (k _ I J b (fun Q2 q => ?_))
  rw [t1] at q
  exact s285 rfl R.1.1 ha (by rw [e0]; exact s0.1) (by rw [e1]; exact s1.1) (by rw [e0, e1]) (q I J b R)
theorem k_judge (R : RR I) : Both xs xl 145 [.ref 0] 267 [.ref 104] I := fun J b Q k =>
  c145 R.1.2.1 R.1.2.2.1 R.1.1 R.1.2.2.2 (fun o ho I1 f1 r1 => k _ I1 J b (fun Q2 q => s267 (Ag_p51 f1).2 (at_g (Ag_p51 f1).1) R.1.1 (c_m_cd R.1.2.2.2) ho (fun I2 f2 e2 => q I2 J b (RR_q R (Ag_t (Ag_p51 f1).1 (Ag_pB f2)) e2 (fo_pB f2 r1)))))
end
