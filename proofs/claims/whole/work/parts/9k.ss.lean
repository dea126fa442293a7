section
/-! the calls, both sides: what changes -/
variable {xs : Nat → Int32} {xl : Nat} {I J : w_I} {b : Bool} {Q : Option Value → w_I → w_I → Bool → Prop}
variable {s : Int → Int}
theorem RR_s (R : RR I) {I1 I2 : w_I} {E : Int → Int} (g1 : Ag I I1) (r1 : c_rf 20 I1 E) (g2 : Ag I1 I2) (r2 : c_rf 20 I1 E → c_rf 20 I2 E) (e2 : I2 110 = E) (wf : m_wf E) (hT : m_eqT (I 110) E) (h2 : m_hi (I 110) E) : RR I2 :=
  RR_k R (Ag_t g1 g2) (by rw [e2]; exact wf) (by rw [e2]; exact r2 r1) (by rw [e2]; exact hT) (by rw [e2]; exact h2)
theorem k_come {y t l : Int} (R : RR I) (hy : w_in y) (ht : w_in t) (hl : l = 0 ∨ l = 1) : Both xs xl 124 [.ref 0, w_i y, w_i t, w_i l] 221 [.ref 104, w_i y, w_i t, w_i l] I := fun J b Q k =>
  c124 R.1.2.1 R.1.1.1 hy ht hl (fun m I1 f1 r1 => k _ I1 J b (fun Q2 q => s221 (Ag_pF f1).2 R.1.1.1 hy ht hl (fun _ I2 f2 e2 => q I2 J b (RR_s R (Ag_pF f1).1 r1 (Ag_p110 f2) (fo_p110 f2) e2 (m_wf_enter R.1.1 m.1 m.2.1 m.2.2.1 m.2.2.2 hl) (eT_enter R.1.1 m.1 m.2.1) (hi_enter R.1.1 m.1 m.2.1))) (fun h => absurd m h))) (fun m => k _ I J b (fun Q2 q => s221 rfl R.1.1.1 hy ht hl (fun h => absurd h m) (fun _ => q I J b R)))
theorem k_join {p g : Int} (R : RR I) (hp : w_in p) (hg : w_in g) : Both xs xl 125 [.ref 0, w_i p, w_i g] 223 [.ref 104, w_i p, w_i g] I := fun J b Q k =>
  c125 R.1.2.1 R.1.1 hp hg (fun m1 m2 m3 m4 I1 f1 r1 => k _ I1 J b (fun Q2 q => s223 (Ag_pF f1).2 R.1.1 hp hg (fun _ _ _ _ I2 f2 e2 => q I2 J b (RR_s R (Ag_pF f1).1 r1 (Ag_pS f2) (fo_pS f2) e2 (m_wf_join R.1.1 m1 m2 m3 m4) (eT_join R.1.1 m1 m2) (hi_join R.1.1 m1 m2))) (fun h => absurd ⟨m1, m2, m3, m4⟩ h))) (fun m => k _ I J b (fun Q2 q => s223 rfl R.1.1 hp hg (fun a1 a2 a3 a4 => absurd ⟨a1, a2, a3, a4⟩ m) (fun _ I2 f2 e2 => q I2 J b (RR_q R (Ag_pS f2) e2 (fo_pS f2 R.1.2.1)))))
theorem k_die {p : Int} (R : RR I) (hp : w_in p) : Both xs xl 126 [.ref 0, w_i p] 225 [.ref 104, w_i p] I := fun J b Q k =>
  c126 R.1.2.1 R.1.1 hp (fun m I1 f1 r1 => k _ I1 J b (fun Q2 q => s225 (Ag_pF f1).2 R.1.1 hp (fun _ I2 f2 e2 => q I2 J b (RR_s R (Ag_pF f1).1 r1 (Ag_pS f2) (fo_pS f2) e2 (m_wf_die R.1.1 m) (eT_die R.1.1 m) (hi_die R.1.1 m))) (fun h => absurd m h))) (fun m => k _ I J b (fun Q2 q => s225 rfl R.1.1 hp (fun h => absurd h m) (fun _ => q I J b R)))
theorem k_live {f h : Int} (R : RR I) (hf : w_in f) (hh : w_in h) : Both xs xl 129 [.ref 0, w_i f, w_i h] 228 [.ref 104, w_i f, w_i h] I := fun J b Q k => by
  refine c129 R.1.2.1 R.1.2.2.1 R.1.1 hf hh (fun m I1 f1 r1 => k _ I1 J b (fun Q2 q => s228 (Ag_pF f1).2 R.1.1 hf hh (fun _ I2 f2 e2 => q I2 J b (RR_s R (Ag_pF f1).1 r1 (Ag_p110 f2) (fo_p110 f2) e2 (m_wf_home R.1.1 m.1 ?_) (fun k hk => ?_) (fun k hk => ?_))) (fun h => absurd m h))) (fun m => k _ I J b (fun Q2 q => s228 rfl R.1.1 hf hh (fun h => absurd h m) (fun _ => q I J b R)))
  · rcases m.2 with x | x
    · left
      unfold m_to
      rw [if_pos (by omega)]
    · right
      have e : m_to h = h := by
        unfold m_to
        rw [if_neg (by omega)]
      rw [e]
      exact x
  · have := m.1.1
    rw [u1g, if_neg (by omega)]
  · have := m.1.2.1
    have w0 := R.1.1.1.1
    rw [u1g, if_neg (by omega)]
theorem k_love {f h : Int} (R : RR I) (hf : w_in f) (hh : w_in h) : Both xs xl 130 [.ref 0, w_i f, w_i h] 229 [.ref 104, w_i f, w_i h] I := fun J b Q k => by
  refine c130 R.1.2.1 R.1.2.2.1 R.1.1 hf hh (fun m I1 f1 r1 => k _ I1 J b (fun Q2 q => s229 (Ag_pF f1).2 R.1.1 hf hh (fun _ I2 f2 e2 => q I2 J b (RR_s R (Ag_pF f1).1 r1 (Ag_p110 f2) (fo_p110 f2) e2 (m_wf_love R.1.1 m.1 ?_) (fun k hk => ?_) (fun k hk => ?_))) (fun h => absurd m h))) (fun m => k _ I J b (fun Q2 q => s229 rfl R.1.1 hf hh (fun h => absurd h m) (fun _ => q I J b R)))
  · rcases m.2 with x | x
    · left
      unfold m_to
      rw [if_pos (by omega)]
    · right
      have e : m_to h = h := by
        unfold m_to
        rw [if_neg (by omega)]
      rw [e]
      exact x
  · have := m.1.1
    rw [u1g, if_neg (by omega)]
  · have := m.1.2.1
    have w0 := R.1.1.1.1
    rw [u1g, if_neg (by omega)]
theorem k_months {n : Int} (R : RR I) (hn : w_in n) : Both xs xl 131 [.ref 0, w_i n] 230 [.ref 104, w_i n] I := fun J b Q k =>
  c131 R.1.2.1 R.1.1.1 hn (fun m I1 f1 r1 => k _ I1 J b (fun Q2 q => s230 (Ag_pF f1).2 R.1.1.1 hn (fun _ I2 f2 e2 => q I2 J b (RR_s R (Ag_pF f1).1 r1 (Ag_p110 f2) (fo_p110 f2) e2 (m_wf_mon R.1.1 (by omega)) (fun k hk => by rw [u1g, if_neg (by omega)]) (fun k hk => by rw [u1g, if_neg (by omega)]))) (fun h => absurd m h))) (fun m => k _ I J b (fun Q2 q => s230 rfl R.1.1.1 hn (fun h => absurd h m) (fun _ => q I J b R)))
theorem k_move {mo f h : Int} (R : RR I) (h1 : w_in mo) (h2 : w_in f) (h3 : w_in h) : Both xs xl 143 [.ref 0, w_i mo, w_i f, w_i h] 261 [.ref 104, w_i mo, w_i f, w_i h] I := fun J b Q k => by
  have w0 := R.1.1.1.1
  refine c143 R.1.2.1 R.1.2.2.1 R.1.1 h1 h2 h3 (fun m => k _ I J b (fun Q2 q => s261 rfl R.1.1 h1 h2 h3 (fun _ => q I J b R) (fun h => absurd h m))) (fun m I1 f1 r1 => k _ I1 J b (fun Q2 q => s261 (Ag_pF f1).2 R.1.1 h1 h2 h3 (fun h => absurd m h) (fun _ I2 f2 e2 => q I2 J b (RR_s R (Ag_pF f1).1 r1 (Ag_p110 f2) (fo_p110 f2) e2 (m_wf_mov R.1.1 m) (fun k hk => ?_) (fun k hk => ?_)))))
  · unfold m_mov
    rw [u1g, if_neg (by omega), u1g, if_neg (by omega), u1g, if_neg (by omega), u1g, if_neg (by omega)]
  · have := m.1
    unfold m_mov
    rw [u1g, if_neg (by omega), u1g, if_neg (by omega), u1g, if_neg (by omega), u1g, if_neg (by omega)]
theorem k_forget (R : RR I) : Both xs xl 144 [.ref 0] 262 [.ref 104] I := fun J b Q k =>
  c144 R.1.2.1 R.1.1.1 (fun I1 f1 r1 => k _ I1 J b (fun Q2 q => s262 (Ag_pF f1).2 (fun I2 f2 e2 => q I2 J b (RR_s R (Ag_pF f1).1 r1 (Ag_p110 f2) (fo_p110 f2) e2 (m_wf_fg R.1.1) (fun k hk => by rw [u1g, if_neg (by omega)]) (fun k hk => by rw [u1g, if_neg (by omega)])))))
theorem k_settle {c : Int} (R : RR I) (hc : w_in c) : Both xs xl 137 [.ref 0, w_i c] 250 [.ref 104, w_i c] I := fun J b Q k => by
  refine c137 R.1.2.1 R.1.2.2.1 R.1.1 R.1.2.2.2 hc (fun h => k _ I J b (fun Q2 q => ?_)) (fun h1 n r hr h3 h4 I1 f1 r1 => k _ I1 J b (fun Q2 q => ?_)) (fun h1 n r hr h3 I1 f1 => k _ I1 J b (fun Q2 q => ?_))
  · exact s250 (n := 0) (r := fun _ => 0) rfl RF_at R.1.1 (c_m_cd R.1.2.2.2) hc (fun h1 => absurd h1 h) (fun _ => q I J b R) (fun h1 => absurd h1 h) (fun h1 => absurd h1 h)
  · have oh := m_set_oh (g := m_gL (RF I) (I 110) n r) h1 hr
    exact s250 (Ag_pG f1).2 (at_g (Ag_pG f1).1) R.1.1 (c_m_cd R.1.2.2.2) hc (fun _ => hr) (fun h => absurd h1 h) (fun _ _ _ I2 f2 e2 => q I2 J b (RR_s R (Ag_pG f1).1 r1 (Ag_pQ f2) (fo_pQ f2) e2 (m_wf_set R.1.1 h1 hr (m_gL_up hr.1 h4)) (m_oh_T R.1.1 oh) (hi_oh R.1.1 oh))) (fun _ h => absurd h (fun x => x.elim h3 (fun y => by omega)))
  · exact s250 (Ag_pE f1).2 (at_g (Ag_pE f1).1) R.1.1 (c_m_cd R.1.2.2.2) hc (fun _ => hr) (fun h => absurd h1 h) (fun _ h4 h5 => h3.elim (fun x => absurd x h4) (fun y => by omega)) (fun _ _ I2 f2 => q I2 J b (RR_x R (Ag_pE f1) (fo_pE f1 R.1.2.1) (Ag_pP f2) (st_pP f2) (fo_pP f2)))
theorem k_done (R : RR I) : Both xs xl 146 [.ref 0] 268 [.ref 104] I := fun J b Q k => by
  have w0 := R.1.1.1.1
  refine c146 R.1.2.1 R.1.2.2.1 R.1.1 R.1.2.2.2 (fun o ho h I1 f1 r1 => k _ I1 J b (fun Q2 q => ?_)) (fun o ho h oh wf' I1 f1 r1 => k _ I1 J b (fun Q2 q => ?_)) (fun o ho => ?_)
  · exact s268 (Ag_p51 f1).2 (at_g (Ag_p51 f1).1) R.1.1 (c_m_cd R.1.2.2.2) ho (fun _ I2 f2 e2 => q I2 J b (RR_q R (Ag_t (Ag_p51 f1).1 (Ag_pB f2)) e2 (fo_pB f2 r1))) (fun x => absurd x h)
  · refine s268 (Ag_p51 f1).2 (at_g (Ag_p51 f1).1) R.1.1 (c_m_cd R.1.2.2.2) ho (fun x => absurd h x) (fun _ I2 f2 e2 => q I2 J b (RR_s R (Ag_p51 f1).1 r1 (Ag_pB f2) (fo_pB f2) e2 (m_wf_fg wf') (fun k hk => ?_) (fun k hk => ?_)))
    · rw [u1g, if_neg (by omega)]
      exact m_oh_T R.1.1 oh k hk
    · rw [u1g, if_neg (by omega)]
      exact hi_oh R.1.1 oh k hk
  · have := j_P_b (F := RF I) ho (by omega) (I 110 10).toNat 0 0 0 (I 110) (by decide) (by omega)
    omega
theorem k_years {seed n rule : Int} (R : RR I) (hn : w_in n) (hr : w_in rule) : Both xs xl 151 [.ref 0, w_i seed, w_i n, w_i rule] 284 [.ref 104, w_i seed, w_i n, w_i rule] I := fun J b Q k => by
  refine c151 R.1.2.1 R.1.2.2.1 R.1.1 R.1.2.2.2 hn hr (fun h => k _ I J b (fun Q2 q => ?_)) (fun h1 h2 => k _ I J b (fun Q2 q => ?_)) (fun h1 h2 I1 s' mv f1 hy r1 => k _ I1 J b (fun Q2 q => ?_))
  · exact s284 (s' := fun _ => 0) (mv := 0) rfl RF_at R.1.1 (c_m_cd R.1.2.2.2) hn hr (fun h1 => absurd h1 h) (fun _ => q I J b R) (fun h1 => absurd h1 h) (fun h1 => absurd h1 h)
  · exact s284 (s' := fun _ => 0) (mv := 0) rfl RF_at R.1.1 (c_m_cd R.1.2.2.2) hn hr (fun _ h => absurd h2 h) (fun h => absurd h1 h) (fun _ _ => q I J b R) (fun _ h => absurd h2 h)
  · obtain ⟨b1, b2, b3⟩ := hi_ys n.toNat 0 mv (I 110) s' R.1.1 (by omega) hy
    exact s284 (Ag_p51 f1).2 (at_g (Ag_p51 f1).1) R.1.1 (c_m_cd R.1.2.2.2) hn hr (fun _ _ => hy) (fun h => absurd h1 h) (fun _ h => absurd h h2) (fun _ _ I2 f2 e2 => q I2 J b (RR_s R (Ag_p51 f1).1 r1 (Ag_pB f2) (fo_pB f2) e2 b2 b3 b1))
/-- the tape changes -/
theorem RR_tp {I' : w_I} (R : RR I) {T : Int → Int} {t : Int} (ga : ∀ a, a ≠ 0 → a ≠ 1 → a ≠ 104 → a ≠ 105 → I' a = I a) (h02 : I' 0 2 = I 0 2) (h9 : I' 104 9 = I 104 9) (h1 : c_tp I' T t) (h2 : s_tp I' T t) : RR I' := by
  have e110 := ga 110 (by decide) (by decide) (by decide) (by decide)
  have h2' := h2
  obtain ⟨a1, a2, a3⟩ := h2'
  refine RR_g R (by rw [e110]; exact R.1.1) (by rw [e110]; exact c_rf_fr (fun a x y => ga a (by omega) (by omega) (by omega) (by omega)) R.1.2.1) (fun k _ => by rw [e110]) (fun k _ => by rw [e110]) (fun a x => ga a (by omega) (by omega) (by omega) (by omega)) (fun k _ => by rw [ga 112 (by decide) (by decide) (by decide) (by decide), ga 113 (by decide) (by decide) (by decide) (by decide)]; exact ⟨rfl, rfl⟩) (fun a k x y _ => by rw [ga a (by omega) (by omega) (by omega) (by omega)]) (zB1_e (ga 115 (by decide) (by decide) (by decide) (by decide)) R.2.1) ?_ ?_ (by rw [h02, h9]; exact R.2.2.2.2)
  · rw [a1]
    refine ⟨h1.1, h1.2.1, fun k x y => ?_⟩
    rw [a3 k x y]
    exact h1.2.2 k x y
  · exact ⟨rfl, by rw [a1]; exact a2, fun k _ _ => rfl⟩
theorem p155_a {I' : w_I} (f : w_fr p155 I I') {a : Nat} (h0 : a ≠ 0) (h1 : a ≠ 1) : I' a = I a := w_frA f (fun k => by unfold p155; simp [h0, h1])
theorem p165_a {I' : w_I} (f : w_fr p165 I I') {a : Nat} (h0 : a ≠ 104) (h1 : a ≠ 105) : I' a = I a := w_frA f (fun k => by unfold p165; simp [h0, h1])
theorem k_feed {a1 a2 a3 a4 a5 : Int} (R : RR I) : Both xs xl 119 [.ref 0, w_i a1, w_i a2, w_i a3, w_i a4, w_i a5] 164 [.ref 104, w_i a1, w_i a2, w_i a3, w_i a4, w_i a5] I := fun J b Q k => by
  obtain ⟨t1, t2⟩ := R.2.2.2.1
  refine c119 t1 (fun h => k _ I J b (fun Q2 q => s164 t2 (fun _ => q I J b R) (fun h' => by omega))) (fun h I1 f1 e1 => k _ I1 J b (fun Q2 q => ?_))
  have t2' : s_tp I1 (I 105) (I 104 0) := by
    unfold s_tp
    rw [p155_a f1 (by decide) (by decide), p155_a f1 (a := 105) (by decide) (by decide)]
    exact t2
  refine s164 t2' (fun h' => by omega) (fun _ I2 f2 e2 => q I2 J b (RR_tp R (fun a x1 x2 x3 x4 => by rw [p165_a f2 x3 x4, p155_a f1 x1 x2]) ?_ ?_ ?_ e2))
  · rw [p165_a f2 (by decide) (by decide), f1 0 2 rfl]
  · rw [f2 104 9 rfl, p155_a f1 (by decide) (by decide)]
  · unfold c_tp at e1 ⊢
    rw [p165_a f2 (by decide) (by decide), p165_a f2 (a := 1) (by decide) (by decide)]
    exact e1
theorem k_back {n : Int} (R : RR I) (hn : w_in n) : Both xs xl 120 [.ref 0, w_i n] 166 [.ref 104, w_i n] I := fun J b Q k => by
  obtain ⟨t1, t2⟩ := R.2.2.2.1
  refine c120 t1 hn (fun h => k _ I J b (fun Q2 q => s166 t2 hn (fun _ => q I J b R) (fun h' => absurd h' h))) (fun h I1 f1 e1 => k _ I1 J b (fun Q2 q => ?_))
  have t2' : s_tp I1 (I 105) (I 104 0) := by
    unfold s_tp
    rw [p155_a f1 (by decide) (by decide), p155_a f1 (a := 105) (by decide) (by decide)]
    exact t2
  refine s166 t2' hn (fun h' => absurd h h') (fun _ I2 f2 e2 => q I2 J b (RR_tp R (fun a x1 x2 x3 x4 => by rw [p165_a f2 x3 x4, p155_a f1 x1 x2]) ?_ ?_ ?_ e2))
  · rw [p165_a f2 (by decide) (by decide), f1 0 2 rfl]
  · rw [f2 104 9 rfl, p155_a f1 (by decide) (by decide)]
  · unfold c_tp at e1 ⊢
    rw [p165_a f2 (by decide) (by decide), p165_a f2 (a := 1) (by decide) (by decide)]
    exact e1
end
