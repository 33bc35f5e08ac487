/-! one store for both sides -/
theorem rl_R_same {ex : Nat} {be : Nat → Nat} {al : Nat → Bool} {gc gm gc' gm' : am_S} (h : rl_R ex be al gc gm) (C : ∀ f, f < 24 → gc' f = gc f) (M : ∀ f, 24 ≤ f → f < 45 → gm' f = gm f) : rl_R ex be al gc' gm' := by
  obtain ⟨htk, hrg, hpg, hmp, hal, hdd, hsp, hsh, hfr, hhd, har, hpk, hs1, hs2⟩ := h
  refine ⟨?_, ?_, ?_, ?_, ?_, ?_, ?_, ?_, ?_, ?_, ?_, ?_, ?_, ?_⟩
  · unfold rl_tk; rw [C 19 (by decide), C 23 (by decide), M 25 (by decide) (by decide), M 26 (by decide) (by decide), M 27 (by decide) (by decide)]; exact htk
  · unfold rl_rg; rw [C 19 (by decide), C 20 (by decide), C 21 (by decide), M 28 (by decide) (by decide), M 29 (by decide) (by decide), M 30 (by decide) (by decide)]; exact hrg
  · unfold rl_pg; rw [C 22 (by decide), C 23 (by decide), M 31 (by decide) (by decide), M 32 (by decide) (by decide)]; exact hpg
  · intro s hs; rw [rl_pc_congr (C 23 (by decide)), C 5 (by decide)]; exact hmp s hs
  · unfold rl_al; rw [M 37 (by decide) (by decide)]; exact hal
  · unfold rl_dd; rw [C 5 (by decide), C 6 (by decide)]; exact hdd
  · unfold rl_sp; rw [C 2 (by decide), C 4 (by decide)]; exact hsp
  · unfold rl_sh; rw [C 5 (by decide), C 6 (by decide), C 8 (by decide), C 10 (by decide), C 12 (by decide), M 33 (by decide) (by decide), M 34 (by decide) (by decide), M 35 (by decide) (by decide), M 36 (by decide) (by decide)]; exact hsh
  · unfold rl_fr; rw [C 5 (by decide), C 8 (by decide), C 9 (by decide), C 10 (by decide), M 38 (by decide) (by decide), M 39 (by decide) (by decide), M 40 (by decide) (by decide)]; exact hfr
  · unfold rl_hd; rw [C 7 (by decide), M 24 (by decide) (by decide)]; exact hhd
  · unfold rl_ar rl_in; rw [C 5 (by decide), C 12 (by decide)]; exact har
  · unfold rl_pk; rw [C 11 (by decide), M 33 (by decide) (by decide), M 37 (by decide) (by decide)]; exact hpk
  · unfold rl_s1; rw [C 5 (by decide), C 15 (by decide), C 16 (by decide), C 17 (by decide), M 41 (by decide) (by decide), M 42 (by decide) (by decide), M 43 (by decide) (by decide), M 44 (by decide) (by decide)]; exact hs1
  · unfold rl_s2; rw [C 5 (by decide), M 41 (by decide) (by decide)]; exact hs2
theorem rl_Q_same {gc gm gc' gm' : am_S} (h : rl_Q gc gm) (C : ∀ f, f < 24 → gc' f = gc f) (M : ∀ f, 24 ≤ f → f < 45 → gm' f = gm f) : rl_Q gc' gm' := by
  obtain ⟨be, al, R, F⟩ := h
  exact ⟨be, al, rl_R_same R C M, rl_fx_23 F (C 23 (by decide))⟩
theorem cK_f {g g' : am_S} (h : kp_eq cK g g') (f : Nat) (hf : 24 ≤ f) : g' f = g f := by
  funext i j
  exact h f i j hf
theorem mK2_f {g g' : am_S} (h : kp_eq mK2 g g') (f : Nat) (hf : f < 24 ∨ 45 ≤ f) : g' f = g f := by
  funext i j
  exact h f i j hf
/-- a call that answers an int and may throw; the law keeps the answer in out -/
def la_I (th : Nat → Int32) (C M : am_S → am_R) (g : am_S) : Prop :=
  (∃ w g1, C g = some (.inl (some (.inl w)), g1) ∧ ∃ g2, M (am_up g1 45 0 0 w) = some (.inl (some (.inl w)), g2) ∧ g2 24 0 0 = 0 ∧ g2 45 0 0 = w ∧ rl_Q g2 g2) ∨
  ∃ e g1, C g = some (.inr e, g1) ∧ ∃ b g2, M g1 = some (.inl (some (.inl b)), g2) ∧ g2 24 0 0 = th e ∧ ¬ th e = 0 ∧ rl_Q g2 g2
theorem la_I_of {th : Nat → Int32} {C M : am_S → am_R} (hC : ∀ g r, C g = some r → kp_eq cK g r.2) (hM : ∀ g r, M g = some r → kp_eq mK2 g r.2) (h : ∀ gc gm, rl_Q gc gm → sm_OI th (C gc) (M gm)) {g : am_S} (Q : rl_Q g g) : la_I th C M g := by
  obtain ⟨g1, m0, w0, -, -, r0⟩ := h g g Q
  have C0 : ∃ o, C g = some (o, g1) := by
    rcases r0 with ⟨e, -⟩ | ⟨x, e, -⟩
    · exact ⟨_, e⟩
    · exact ⟨_, e⟩
  obtain ⟨o, C0⟩ := C0
  have k1 := hC g _ C0
  -- the reference on any store that has the class's cells, and anything in out
  have go : ∀ v : Int32, ∃ w g2, M (am_up g1 45 0 0 v) = some (.inl (some (.inl w)), g2) ∧ ((C g = some (.inl (some (.inl w)), g1) ∧ g2 24 0 0 = 0) ∨ ∃ e, C g = some (.inr e, g1) ∧ g2 24 0 0 = th e ∧ ¬ th e = 0) ∧ g2 45 0 0 = v ∧ rl_Q g2 g2 := by
    intro v
    have Q1 : rl_Q g (am_up g1 45 0 0 v) := rl_Q_same Q (fun _ _ => rfl) (fun f a b => by rw [pu_uf (by omega)]; exact cK_f k1 f a)
    obtain ⟨gc', g2, w, Q2, m, r⟩ := h g (am_up g1 45 0 0 v) Q1
    have k2 := hM _ _ m
    have e1 : gc' = g1 := by
      rcases r with ⟨e, -⟩ | ⟨x, e, -⟩
      · rw [C0] at e; cases e; rfl
      · rw [C0] at e; cases e; rfl
    subst e1
    refine ⟨w, g2, m, ?_, ?_, rl_Q_same Q2 (fun f hf => ?_) (fun _ _ _ => rfl)⟩
    · exact r
    · have : g2 45 = (am_up gc' 45 0 0 v) 45 := mK2_f k2 45 (by omega)
      rw [this, pu_us]
    · have : g2 f = (am_up gc' 45 0 0 v) f := mK2_f k2 f (by omega)
      rw [this, pu_uf (by omega)]
  rcases r0 with ⟨e, -⟩ | ⟨x, e, -⟩
  · obtain ⟨w, g2, m, r, q45, Q2⟩ := go w0
    rcases r with ⟨e', z⟩ | ⟨x, e', -⟩
    · have : w = w0 := by rw [e] at e'; cases e'; rfl
      subst this
      exact Or.inl ⟨w, g1, e, g2, m, z, q45, Q2⟩
    · rw [e] at e'; cases e'
  · obtain ⟨w, g2, m, r, q45, Q2⟩ := go (g1 45 0 0)
    rw [rl_up_id rfl] at m
    rcases r with ⟨e', -⟩ | ⟨x', e', z, z'⟩
    · rw [e] at e'; cases e'
    · exact Or.inr ⟨x', g1, e', w, g2, m, z, z', Q2⟩
/-- a call that answers nothing and may throw -/
def la_V (th : Nat → Int32) (C M : am_S → am_R) (g : am_S) : Prop :=
  ∃ g1 g2, M g1 = some (.inl none, g2) ∧ rl_Q g2 g2 ∧ ((C g = some (.inl none, g1) ∧ g2 24 0 0 = 0) ∨ ∃ e, C g = some (.inr e, g1) ∧ g2 24 0 0 = th e ∧ ¬ th e = 0)
theorem la_V_of {th : Nat → Int32} {C M : am_S → am_R} (hC : ∀ g r, C g = some r → kp_eq cK g r.2) (hM : ∀ g r, M g = some r → kp_eq mK2 g r.2) (h : ∀ gc gm, rl_Q gc gm → sm_OV th (C gc) (M gm)) {g : am_S} (Q : rl_Q g g) : la_V th C M g := by
  obtain ⟨g1, m0, -, -, r0⟩ := h g g Q
  have C0 : ∃ o, C g = some (o, g1) := by
    rcases r0 with ⟨e, -⟩ | ⟨x, e, -⟩
    · exact ⟨_, e⟩
    · exact ⟨_, e⟩
  obtain ⟨o, C0⟩ := C0
  have k1 := hC g _ C0
  obtain ⟨gc', g2, Q2, m, r⟩ := h g g1 (rl_Q_same Q (fun _ _ => rfl) (fun f a b => cK_f k1 f a))
  have e1 : gc' = g1 := by
    rcases r with ⟨e, -⟩ | ⟨x, e, -⟩
    · rw [C0] at e; cases e; rfl
    · rw [C0] at e; cases e; rfl
  subst e1
  exact ⟨gc', g2, m, rl_Q_same Q2 (fun f hf => mK2_f (hM _ _ m) f (by omega)) (fun _ _ _ => rfl), r⟩
/-- what is told -/
def la_B (C M : am_S → am_R) (g : am_S) : Prop := ∃ w g1 g2, C g = some (.inl (some (.inl w)), g1) ∧ M g1 = some (.inl (some (.inl w)), g2) ∧ rl_Q g2 g2
theorem la_B_of {C M : am_S → am_R} (hC : ∀ g r, C g = some r → kp_eq cK g r.2) (hM : ∀ g r, M g = some r → kp_eq mK2 g r.2) (h : ∀ gc gm, rl_Q gc gm → sm_OB (C gc) (M gm)) {g : am_S} (Q : rl_Q g g) : la_B C M g := by
  obtain ⟨g1, m0, w0, -, c0, -⟩ := h g g Q
  have k1 := hC g _ c0
  obtain ⟨gc', g2, w, Q2, c, m⟩ := h g g1 (rl_Q_same Q (fun _ _ => rfl) (fun f a b => cK_f k1 f a))
  have e1 : w = w0 ∧ gc' = g1 := by
    rw [c0] at c; cases c; exact ⟨rfl, rfl⟩
  obtain ⟨rfl, rfl⟩ := e1
  exact ⟨w, gc', g2, c0, m, rl_Q_same Q2 (fun f hf => mK2_f (hM _ _ m) f (by omega)) (fun _ _ _ => rfl)⟩
theorem la_spawn {g : am_S} (Q : rl_Q g g) : la_I th_3 vX6_spawn vX7_spawn g := la_I_of (fun g r h => qX6_spawn g h) (fun g r h => qX7_spawn g h) (fun _ _ q => sm_spawn q) Q
theorem la_fork {g : am_S} (x : Int32) (Q : rl_Q g g) : la_I th_13 (vX6_fork x) (vX7_fork x) g := la_I_of (fun g r h => qX6_fork x g h) (fun g r h => qX7_fork x g h) (fun _ _ q => sm_fork x q) Q
theorem la_read {g : am_S} (x y : Int32) (Q : rl_Q g g) : la_I th_134 (vX6_read x y) (vX7_read x y) g := la_I_of (fun g r h => qX6_read x y g h) (fun g r h => qX7_read x y g h) (fun _ _ q => sm_read x y q) Q
theorem la_run (H : sm_TO 1 1 0) {g : am_S} (x y : Int32) (Q : rl_Q g g) : la_I th_12 (vX6_run x y) (vX7_run x y) g := la_I_of (fun g r h => qX6_run x y g h) (fun g r h => qX7_run x y g h) (fun _ _ q => sm_run H x y q) Q
theorem la_area {g : am_S} (x y z k : Int32) (Q : rl_Q g g) : la_V th_123 (vX6_area x y z k) (vX7_area x y z k) g := la_V_of (fun g r h => qX6_area x y z k g h) (fun g r h => qX7_area x y z k g h) (fun _ _ q => sm_area x y z k q) Q
theorem la_share {g : am_S} (x y z w v : Int32) (Q : rl_Q g g) : la_V th_123 (vX6_share x y z w v) (vX7_share x y z w v) g := la_V_of (fun g r h => qX6_share x y z w v g h) (fun g r h => qX7_share x y z w v g h) (fun _ _ q => sm_share x y z w v q) Q
theorem la_free {g : am_S} (x y z : Int32) (Q : rl_Q g g) : la_V th_123 (vX6_free x y z) (vX7_free x y z) g := la_V_of (fun g r h => qX6_free x y z g h) (fun g r h => qX7_free x y z g h) (fun _ _ q => sm_free x y z q) Q
theorem la_exit {g : am_S} (x : Int32) (Q : rl_Q g g) : la_V th_1 (vX6_exit x) (vX7_exit x) g := la_V_of (fun g r h => qX6_exit x g h) (fun g r h => qX7_exit x g h) (fun _ _ q => sm_exit x q) Q
theorem la_write (H : sm_TO 1 1 0) {g : am_S} (x y v : Int32) (Q : rl_Q g g) : la_V th_134 (vX6_write x y v) (vX7_write x y v) g := la_V_of (fun g r h => qX6_write x y v g h) (fun g r h => qX7_write x y v g h) (fun _ _ q => sm_write H x y v q) Q
theorem la_load (H : sm_TO 2 1 1) {g : am_S} (x y v : Int32) (Q : rl_Q g g) : la_V th_134 (vX6_load x y v) (vX7_load x y v) g := la_V_of (fun g r h => qX6_load x y v g h) (fun g r h => qX7_load x y v g h) (fun _ _ q => sm_load H x y v q) Q
theorem la_slot {g : am_S} (x y : Int32) (Q : rl_Q g g) : la_V th_12 (vX6_slot x y) (vX7_slot x y) g := la_V_of (fun g r h => qX6_slot x y g h) (fun g r h => qX7_slot x y g h) (fun _ _ q => sm_slotO x y q) Q
theorem la_valuable {g : am_S} (x v : Int32) (hv : v = 0 ∨ v = 1) (Q : rl_Q g g) : la_V th_1 (vX6_valuable x v) (vX7_valuable x v) g := la_V_of (fun g r h => qX6_valuable x v g h) (fun g r h => qX7_valuable x v g h) (fun _ _ q => sm_valuable x v hv q) Q
theorem la_tick {g : am_S} (Q : rl_Q g g) : ∃ g1 g2, vX6_tick g = some (.inl none, g1) ∧ vX7_tick g1 = some (.inl none, g2) ∧ rl_Q g2 g2 := by
  obtain ⟨g1, m0, -, c0, -⟩ := sm_tick Q
  have k1 := qX6_tick g c0
  obtain ⟨gc', g2, Q2, c, m⟩ := sm_tick (rl_Q_same Q (gm' := g1) (fun _ _ => rfl) (fun f a b => cK_f k1 f a))
  have e1 : gc' = g1 := by rw [c0] at c; cases c; rfl
  subst e1
  exact ⟨gc', g2, c0, m, rl_Q_same Q2 (fun f hf => mK2_f (qX7_tick _ m) f (by omega)) (fun _ _ _ => rfl)⟩
theorem la_about {g : am_S} (x w : Int32) (Q : rl_Q g g) : la_B (vX6_about x w) (vX7_about x w) g := la_B_of (fun g r h => qX6_about x w g h) (fun g r h => qX7_about x w g h) (fun _ _ q => sm_about x w q) Q
theorem la_page {g : am_S} (x y w : Int32) (Q : rl_Q g g) : la_B (vX6_page x y w) (vX7_page x y w) g := la_B_of (fun g r h => qX6_page x y w g h) (fun g r h => qX7_page x y w g h) (fun _ _ q => sm_pageO x y w q) Q
theorem la_frame {g : am_S} (x : Int32) (Q : rl_Q g g) : la_B (vX6_frame x) (vX7_frame x) g := la_B_of (fun g r h => qX6_frame x g h) (fun g r h => qX7_frame x g h) (fun _ _ q => sm_frame x q) Q
theorem la_slots {g : am_S} (x : Int32) (Q : rl_Q g g) : la_B (vX6_slots x) (vX7_slots x) g := la_B_of (fun g r h => qX6_slots x g h) (fun g r h => qX7_slots x g h) (fun _ _ q => sm_slots x q) Q
theorem la_pool {g : am_S} (x : Int32) (Q : rl_Q g g) : la_B (vX6_pool x) (vX7_pool x) g := la_B_of (fun g r h => qX6_pool x g h) (fun g r h => qX7_pool x g h) (fun _ _ q => sm_pool x q) Q
theorem la_broken {g : am_S} (Q : rl_Q g g) : la_B vX6_broken vX7_broken g := la_B_of (fun g r h => qX6_broken g h) (fun g r h => qX7_broken g h) (fun _ _ q => sm_broken q) Q
