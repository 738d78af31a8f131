/-! the machine's functions of the class come to what those of the typed heap come to (printed by wip/p28/cls.py) -/
set_option maxRecDepth 10000 in
set_option maxHeartbeats 4000000 in
theorem t_DeadCycles_init {B : Nat} {SA : Nat → Nat} {h0 : Nat → Option JCell} (hs : CS B SA h0) : ∀ (v0 : Nat) (C C9 : CT), CW B C → c_DeadCycles_init v0 C = some C9 → g_DeadCycles_init v0 (ovC C h0, ck C) = some (ovC C9 h0, ck C9) ∧ CW B C9 := by
  intro v0 C C9 hw h
  unfold c_DeadCycles_init at h
  unfold g_DeadCycles_init
  obtain rfl := Option.some.inj h; exact ⟨rfl, hw⟩
set_option maxRecDepth 10000 in
set_option maxHeartbeats 4000000 in
theorem t_Numbers_init {B : Nat} {SA : Nat → Nat} {h0 : Nat → Option JCell} (hs : CS B SA h0) : ∀ (v0 : Nat) (C C9 : CT), CW B C → c_Numbers_init v0 C = some C9 → g_Numbers_init v0 (ovC C h0, ck C) = some (ovC C9 h0, ck C9) ∧ CW B C9 := by
  intro v0 C C9 hw h
  unfold c_Numbers_init at h
  unfold g_Numbers_init
  obtain rfl := Option.some.inj h; exact ⟨rfl, hw⟩
set_option maxRecDepth 10000 in
set_option maxHeartbeats 4000000 in
theorem t_Real_init {B : Nat} {SA : Nat → Nat} {h0 : Nat → Option JCell} (hs : CS B SA h0) : ∀ (v0 : Nat) (v1 : Int32) (v2 : Int32) (C C9 : CT), CW B C → c_Real_init v0 v1 v2 C = some C9 → g_Real_init B v0 v1 v2 (ovC C h0, ck C) = some (ovC C9 h0, ck C9) ∧ CW B C9 := by
  intro v0 v1 v2 C C9 hw h
  unfold c_Real_init at h
  unfold g_Real_init
  replace h := obd_of h; obtain ⟨C1, hC1, h⟩ := h; have hq := (t_Numbers_init hs _ _ _ hw hC1); refine obd_go hq.1 ?_; replace hw := hq.2
  replace h := obd_of h; obtain ⟨C2, hC2, h⟩ := h
  refine obd_go (cp_I rfl hw hC2).1 ?_; replace hw := (cp_I (h0 := h0) rfl hw hC2).2
  replace h := obd_of h; obtain ⟨C3, hC3, h⟩ := h
  refine obd_go (cp_J rfl hw hC3).1 ?_; replace hw := (cp_J (h0 := h0) rfl hw hC3).2
  replace h := obd_of h; obtain ⟨C4, hC4, h⟩ := h
  refine obd_go (cp_I rfl hw hC4).1 ?_; replace hw := (cp_I (h0 := h0) rfl hw hC4).2
  replace h := obd_of h; obtain ⟨x5, hx5, h⟩ := h
  refine obd_go (cg_I rfl hx5) ?_
  replace h := obd_of h; obtain ⟨C6, hC6, h⟩ := h
  refine obd_go (cp_I rfl hw hC6).1 ?_; replace hw := (cp_I (h0 := h0) rfl hw hC6).2
  replace h := obd_of h; obtain ⟨C7, hC7, h⟩ := h
  refine obd_go (cp_J rfl hw hC7).1 ?_; replace hw := (cp_J (h0 := h0) rfl hw hC7).2
  replace h := obd_of h; obtain ⟨x8, hx8, h⟩ := h
  refine obd_go (cg_I rfl hx8) ?_
  replace h := obd_of h; obtain ⟨C9, hC9, h⟩ := h
  refine obd_go (cp_J rfl hw hC9).1 ?_; replace hw := (cp_J (h0 := h0) rfl hw hC9).2
  replace h := obd_of h; obtain ⟨x10, hx10, h⟩ := h
  refine obd_go (cg_J rfl hx10) ?_
  replace h := obd_of h; obtain ⟨x11, hx11, h⟩ := h
  refine obd_go (cg_J rfl hx11) ?_
  replace h := obd_of h; obtain ⟨C12, hC12, h⟩ := h
  refine obd_go (cp_J rfl hw hC12).1 ?_; replace hw := (cp_J (h0 := h0) rfl hw hC12).2
  obtain rfl := Option.some.inj h; exact ⟨rfl, hw⟩
set_option maxRecDepth 10000 in
set_option maxHeartbeats 4000000 in
theorem t_Shorts_init {B : Nat} {SA : Nat → Nat} {h0 : Nat → Option JCell} (hs : CS B SA h0) : ∀ (v0 : Nat) (C C9 : CT), CW B C → c_Shorts_init v0 C = some C9 → g_Shorts_init v0 (ovC C h0, ck C) = some (ovC C9 h0, ck C9) ∧ CW B C9 := by
  intro v0 C C9 hw h
  unfold c_Shorts_init at h
  unfold g_Shorts_init
  replace h := obd_of h; obtain ⟨C1, hC1, h⟩ := h; have hq := (t_Numbers_init hs _ _ _ hw hC1); refine obd_go hq.1 ?_; replace hw := hq.2
  obtain rfl := Option.some.inj h; exact ⟨rfl, hw⟩
set_option maxRecDepth 10000 in
set_option maxHeartbeats 4000000 in
theorem t_B_init {B : Nat} {SA : Nat → Nat} {h0 : Nat → Option JCell} (hs : CS B SA h0) : ∀ (v0 : Nat) (C C9 : CT), CW B C → c_B_init v0 C = some C9 → g_B_init B v0 (ovC C h0, ck C) = some (ovC C9 h0, ck C9) ∧ CW B C9 := by
  intro v0 C C9 hw h
  unfold c_B_init at h
  unfold g_B_init
  replace h := cnew_of h; refine jnew_go hw (by decide) ?_; replace hw := cw_new (ci := 5) hw (by decide)
  replace h := obd_of h; obtain ⟨C3, hC3, h⟩ := h; have hq := (t_Real_init hs _ _ _ _ _ hw hC3); refine obd_go hq.1 ?_; replace hw := hq.2
  replace h := obd_of h; obtain ⟨C4, hC4, h⟩ := h
  refine obd_go (cp_A rfl hw hC4).1 ?_; replace hw := (cp_A (h0 := h0) rfl hw hC4).2
  replace h := cnew_of h; refine jnew_go hw (by decide) ?_; replace hw := cw_new (ci := 5) hw (by decide)
  replace h := obd_of h; obtain ⟨C7, hC7, h⟩ := h; have hq := (t_Real_init hs _ _ _ _ _ hw hC7); refine obd_go hq.1 ?_; replace hw := hq.2
  replace h := obd_of h; obtain ⟨C8, hC8, h⟩ := h
  refine obd_go (cp_A rfl hw hC8).1 ?_; replace hw := (cp_A (h0 := h0) rfl hw hC8).2
  replace h := cnew_of h; refine jnew_go hw (by decide) ?_; replace hw := cw_new (ci := 8) hw (by decide)
  replace h := obd_of h; obtain ⟨C11, hC11, h⟩ := h; have hq := (t_Shorts_init hs _ _ _ hw hC11); refine obd_go hq.1 ?_; replace hw := hq.2
  replace h := obd_of h; obtain ⟨C12, hC12, h⟩ := h
  refine obd_go (cp_A rfl hw hC12).1 ?_; replace hw := (cp_A (h0 := h0) rfl hw hC12).2
  replace h := cbd2_of h; obtain ⟨a13, C14, ha13, h⟩ := h; refine jbd2_go (cn_R hw ha13).1 ?_; replace hw := (cn_R (h0 := h0) hw ha13).2
  replace h := obd_of h; obtain ⟨C15, hC15, h⟩ := h
  refine obd_go (cp_A rfl hw hC15).1 ?_; replace hw := (cp_A (h0 := h0) rfl hw hC15).2
  replace h := cbd2_of h; obtain ⟨a16, C17, ha16, h⟩ := h; refine jbd2_go (cn_R hw ha16).1 ?_; replace hw := (cn_R (h0 := h0) hw ha16).2
  replace h := obd_of h; obtain ⟨C18, hC18, h⟩ := h
  refine obd_go (cp_A rfl hw hC18).1 ?_; replace hw := (cp_A (h0 := h0) rfl hw hC18).2
  replace h := cbd2_of h; obtain ⟨a19, C20, ha19, h⟩ := h; refine jbd2_go (cn_R hw ha19).1 ?_; replace hw := (cn_R (h0 := h0) hw ha19).2
  replace h := obd_of h; obtain ⟨C21, hC21, h⟩ := h
  refine obd_go (cp_A rfl hw hC21).1 ?_; replace hw := (cp_A (h0 := h0) rfl hw hC21).2
  replace h := cbd2_of h; obtain ⟨a22, C23, ha22, h⟩ := h; refine jbd2_go (cn_R hw ha22).1 ?_; replace hw := (cn_R (h0 := h0) hw ha22).2
  replace h := obd_of h; obtain ⟨C24, hC24, h⟩ := h
  refine obd_go (cp_A rfl hw hC24).1 ?_; replace hw := (cp_A (h0 := h0) rfl hw hC24).2
  replace h := cnew_of h; refine jnew_go hw (by decide) ?_; replace hw := cw_new (ci := 2) hw (by decide)
  replace h := obd_of h; obtain ⟨C27, hC27, h⟩ := h; have hq := (t_DeadCycles_init hs _ _ _ hw hC27); refine obd_go hq.1 ?_; replace hw := hq.2
  replace h := obd_of h; obtain ⟨C28, hC28, h⟩ := h
  refine obd_go (cp_A rfl hw hC28).1 ?_; replace hw := (cp_A (h0 := h0) rfl hw hC28).2
  obtain rfl := Option.some.inj h; exact ⟨rfl, hw⟩
set_option maxRecDepth 10000 in
set_option maxHeartbeats 4000000 in
theorem t_B_fitsKind_48 {B : Nat} {SA : Nat → Nat} {h0 : Nat → Option JCell} (hs : CS B SA h0) : ∀ (C : CT) (r : Bool), CW B C → c_B_fitsKind_48 C = some r → g_B_fitsKind_48 SA (ovC C h0) = some r ∧ True := by
  intro C r hw h
  unfold c_B_fitsKind_48 at h
  unfold g_B_fitsKind_48
  obtain rfl := Option.some.inj h; exact ⟨rfl, trivial⟩
set_option maxRecDepth 10000 in
set_option maxHeartbeats 4000000 in
theorem t_B_fitsKind {B : Nat} {SA : Nat → Nat} {h0 : Nat → Option JCell} (hs : CS B SA h0) : ∀ (v0 : Int32) (v1 : Int32) (C : CT) (r : Bool), CW B C → c_B_fitsKind v0 v1 C = some r → g_B_fitsKind SA v0 v1 (ovC C h0) = some r ∧ True := by
  intro v0 v1 C r hw h
  unfold c_B_fitsKind at h
  unfold g_B_fitsKind
  replace h := ite_or h; rcases h with ⟨hc, h⟩ | ⟨hc, h⟩
  · refine ite_goT hc ?_
    obtain rfl := Option.some.inj h; exact ⟨rfl, trivial⟩
  · refine ite_goF hc ?_
    replace h := obd_of h; obtain ⟨x1, hx1, h⟩ := h
    refine obd_go (cs_len hs hw hx1) ?_
    replace h := ite_or h; rcases h with ⟨hc, h⟩ | ⟨hc, h⟩
    · refine ite_goT hc ?_
      obtain rfl := Option.some.inj h; exact ⟨rfl, trivial⟩
    · refine ite_goF hc ?_
      replace h := obd_of h; obtain ⟨x2, hx2, h⟩ := h
      refine obd_go (cs_len hs hw hx2) ?_
      replace h := ite_or h; rcases h with ⟨hc, h⟩ | ⟨hc, h⟩
      · refine ite_goT hc ?_
        replace h := obd_of h; obtain ⟨x3, hx3, h⟩ := h
        refine obd_go (cs_I hs hw hx3) ?_
        replace h := ite_or h; rcases h with ⟨hc, h⟩ | ⟨hc, h⟩
        · refine ite_goT hc ?_
          exact t_B_fitsKind_48 hs  _ _ hw h
        · refine ite_goF hc ?_
          replace h := obd_of h; obtain ⟨x4, hx4, h⟩ := h
          refine obd_go (cs_I hs hw hx4) ?_
          replace h := ite_or h; rcases h with ⟨hc, h⟩ | ⟨hc, h⟩
          · refine ite_goT hc ?_
            obtain rfl := Option.some.inj h; exact ⟨rfl, trivial⟩
          · refine ite_goF hc ?_
            replace h := obd_of h; obtain ⟨x5, hx5, h⟩ := h
            refine obd_go (cs_I hs hw hx5) ?_
            replace h := ite_or h; rcases h with ⟨hc, h⟩ | ⟨hc, h⟩
            · refine ite_goT hc ?_
              obtain rfl := Option.some.inj h; exact ⟨rfl, trivial⟩
            · refine ite_goF hc ?_
              exact t_B_fitsKind_48 hs  _ _ hw h
      · refine ite_goF hc ?_
        obtain rfl := Option.some.inj h; exact ⟨rfl, trivial⟩
set_option maxRecDepth 10000 in
set_option maxHeartbeats 4000000 in
theorem t_B_isKind {B : Nat} {SA : Nat → Nat} {h0 : Nat → Option JCell} (hs : CS B SA h0) : ∀ (v0 : Int32) (C : CT) (r : Bool), CW B C → c_B_isKind v0 C = some r → g_B_isKind SA v0 (ovC C h0) = some r ∧ True := by
  intro v0 C r hw h
  unfold c_B_isKind at h
  unfold g_B_isKind
  replace h := ite_or h; rcases h with ⟨hc, h⟩ | ⟨hc, h⟩
  · refine ite_goT hc ?_
    obtain rfl := Option.some.inj h; exact ⟨rfl, trivial⟩
  · refine ite_goF hc ?_
    replace h := obd_of h; obtain ⟨x1, hx1, h⟩ := h
    refine obd_go (cs_len hs hw hx1) ?_
    replace h := ite_or h; rcases h with ⟨hc, h⟩ | ⟨hc, h⟩
    · refine ite_goT hc ?_
      obtain rfl := Option.some.inj h; exact ⟨rfl, trivial⟩
    · refine ite_goF hc ?_
      obtain rfl := Option.some.inj h; exact ⟨rfl, trivial⟩
set_option maxRecDepth 10000 in
set_option maxHeartbeats 4000000 in
theorem t_Row_init_14 {B : Nat} {SA : Nat → Nat} {h0 : Nat → Option JCell} (hs : CS B SA h0) : ∀ (s0 : Int32) (s1 : Nat) (C C9 : CT), CW B C → c_Row_init_14 s0 s1 C = some C9 → g_Row_init_14 B s0 s1 (ovC C h0, ck C) = some (ovC C9 h0, ck C9) ∧ CW B C9 := by
  intro s0 s1 C C9 hw h
  unfold c_Row_init_14 at h
  unfold g_Row_init_14
  replace h := cbd2_of h; obtain ⟨a1, C2, ha1, h⟩ := h; refine jbd2_go (cn_J hw ha1).1 ?_; replace hw := (cn_J (h0 := h0) hw ha1).2
  replace h := obd_of h; obtain ⟨C3, hC3, h⟩ := h
  refine obd_go (cp_A rfl hw hC3).1 ?_; replace hw := (cp_A (h0 := h0) rfl hw hC3).2
  obtain rfl := Option.some.inj h; exact ⟨rfl, hw⟩
set_option maxRecDepth 10000 in
set_option maxHeartbeats 4000000 in
theorem t_Row_init {B : Nat} {SA : Nat → Nat} {h0 : Nat → Option JCell} (hs : CS B SA h0) : ∀ (v0 : Nat) (v1 : Int32) (C C9 : CT), CW B C → c_Row_init v0 v1 C = some C9 → g_Row_init B v0 v1 (ovC C h0, ck C) = some (ovC C9 h0, ck C9) ∧ CW B C9 := by
  intro v0 v1 C C9 hw h
  unfold c_Row_init at h
  unfold g_Row_init
  replace h := ite_or h; rcases h with ⟨hc, h⟩ | ⟨hc, h⟩
  · refine ite_goT hc ?_
    exact t_Row_init_14 hs _ _ _ _ hw h
  · refine ite_goF hc ?_
    exact t_Row_init_14 hs _ _ _ _ hw h
set_option maxRecDepth 10000 in
set_option maxHeartbeats 4000000 in
theorem t_Section_init_128 {B : Nat} {SA : Nat → Nat} {h0 : Nat → Option JCell} (hs : CS B SA h0) : ∀ (s0 : Int32) (s1 : Nat) (s2 : Nat) (s3 : Nat) (C C9 : CT), CW B C → c_Section_init_128 s0 s1 s2 s3 C = some C9 → g_Section_init_128 B SA s0 s1 s2 s3 (ovC C h0, ck C) = some (ovC C9 h0, ck C9) ∧ CW B C9 := by
  intro s0 s1 s2 s3 C C9 hw h
  unfold c_Section_init_128 at h
  unfold g_Section_init_128
  replace h := obd_of h; obtain ⟨C1, hC1, h⟩ := h; have hq := (t_Row_init hs _ _ _ _ hw hC1); refine obd_go hq.1 ?_; replace hw := hq.2
  replace h := obd_of h; obtain ⟨C2, hC2, h⟩ := h
  refine obd_go (cp_A rfl hw hC2).1 ?_; replace hw := (cp_A (h0 := h0) rfl hw hC2).2
  obtain rfl := Option.some.inj h; exact ⟨rfl, hw⟩
set_option maxRecDepth 10000 in
set_option maxHeartbeats 4000000 in
theorem t_Section_init_109 {B : Nat} {SA : Nat → Nat} {h0 : Nat → Option JCell} (hs : CS B SA h0) : ∀ (v0 : Nat) (v4 : Int32) (s0 : Int32) (C C9 : CT), CW B C → c_Section_init_109 v0 v4 s0 C = some C9 → g_Section_init_109 B SA v0 v4 s0 (ovC C h0, ck C) = some (ovC C9 h0, ck C9) ∧ CW B C9 := by
  intro v0 v4 s0 C C9 hw h
  unfold c_Section_init_109 at h
  unfold g_Section_init_109
  replace h := cnew_of h; refine jnew_go hw (by decide) ?_; replace hw := cw_new (ci := 6) hw (by decide)
  replace h := ite_or h; rcases h with ⟨hc, h⟩ | ⟨hc, h⟩
  · refine ite_goT hc ?_
    exact t_Section_init_128 hs _ _ _ _ _ _ hw h
  · refine ite_goF hc ?_
    exact t_Section_init_128 hs _ _ _ _ _ _ hw h
set_option maxRecDepth 10000 in
set_option maxHeartbeats 4000000 in
theorem t_Section_init_100 {B : Nat} {SA : Nat → Nat} {h0 : Nat → Option JCell} (hs : CS B SA h0) : ∀ (v0 : Nat) (v4 : Int32) (C C9 : CT), CW B C → c_Section_init_100 v0 v4 C = some C9 → g_Section_init_100 B SA v0 v4 (ovC C h0, ck C) = some (ovC C9 h0, ck C9) ∧ CW B C9 := by
  intro v0 v4 C C9 hw h
  unfold c_Section_init_100 at h
  unfold g_Section_init_100
  exact t_Section_init_109 hs _ _ _ _ _ hw h
set_option maxRecDepth 10000 in
set_option maxHeartbeats 4000000 in
theorem t_Section_init_83 {B : Nat} {SA : Nat → Nat} {h0 : Nat → Option JCell} (hs : CS B SA h0) : ∀ (v0 : Nat) (v2 : Int32) (v4 : Int32) (s0 : Int32) (s1 : Nat) (C C9 : CT), CW B C → c_Section_init_83 v0 v2 v4 s0 s1 C = some C9 → g_Section_init_83 B SA v0 v2 v4 s0 s1 (ovC C h0, ck C) = some (ovC C9 h0, ck C9) ∧ CW B C9 := by
  intro v0 v2 v4 s0 s1 C C9 hw h
  unfold c_Section_init_83 at h
  unfold g_Section_init_83
  replace h := cbd2_of h; obtain ⟨a1, C2, ha1, h⟩ := h; refine jbd2_go (cn_J hw ha1).1 ?_; replace hw := (cn_J (h0 := h0) hw ha1).2
  replace h := obd_of h; obtain ⟨C3, hC3, h⟩ := h
  refine obd_go (cp_A rfl hw hC3).1 ?_; replace hw := (cp_A (h0 := h0) rfl hw hC3).2
  replace h := ite_or h; rcases h with ⟨hc, h⟩ | ⟨hc, h⟩
  · refine ite_goT hc ?_
    exact t_Section_init_100 hs _ _ _ _ hw h
  · refine ite_goF hc ?_
    replace h := obd_of h; obtain ⟨x4, hx4, h⟩ := h
    refine obd_go (cs_len hs hw hx4) ?_
    replace h := ite_or h; rcases h with ⟨hc, h⟩ | ⟨hc, h⟩
    · refine ite_goT hc ?_
      replace h := obd_of h; obtain ⟨x5, hx5, h⟩ := h
      refine obd_go (cs_I hs hw hx5) ?_
      exact t_Section_init_109 hs _ _ _ _ _ hw h
    · refine ite_goF hc ?_
      exact t_Section_init_100 hs _ _ _ _ hw h
set_option maxRecDepth 10000 in
set_option maxHeartbeats 4000000 in
theorem t_Section_init_69 {B : Nat} {SA : Nat → Nat} {h0 : Nat → Option JCell} (hs : CS B SA h0) : ∀ (v0 : Nat) (v2 : Int32) (v4 : Int32) (s0 : Int32) (C C9 : CT), CW B C → c_Section_init_69 v0 v2 v4 s0 C = some C9 → g_Section_init_69 B SA v0 v2 v4 s0 (ovC C h0, ck C) = some (ovC C9 h0, ck C9) ∧ CW B C9 := by
  intro v0 v2 v4 s0 C C9 hw h
  unfold c_Section_init_69 at h
  unfold g_Section_init_69
  replace h := ite_or h; rcases h with ⟨hc, h⟩ | ⟨hc, h⟩
  · refine ite_goT hc ?_
    exact t_Section_init_83 hs _ _ _ _ _ _ _ hw h
  · refine ite_goF hc ?_
    exact t_Section_init_83 hs _ _ _ _ _ _ _ hw h
set_option maxRecDepth 10000 in
set_option maxHeartbeats 4000000 in
theorem t_Section_init_60 {B : Nat} {SA : Nat → Nat} {h0 : Nat → Option JCell} (hs : CS B SA h0) : ∀ (v0 : Nat) (v2 : Int32) (v4 : Int32) (C C9 : CT), CW B C → c_Section_init_60 v0 v2 v4 C = some C9 → g_Section_init_60 B SA v0 v2 v4 (ovC C h0, ck C) = some (ovC C9 h0, ck C9) ∧ CW B C9 := by
  intro v0 v2 v4 C C9 hw h
  unfold c_Section_init_60 at h
  unfold g_Section_init_60
  exact t_Section_init_69 hs _ _ _ _ _ _ hw h
set_option maxRecDepth 10000 in
set_option maxHeartbeats 4000000 in
theorem t_Section_init {B : Nat} {SA : Nat → Nat} {h0 : Nat → Option JCell} (hs : CS B SA h0) : ∀ (v0 : Nat) (v1 : Int32) (v2 : Int32) (v3 : Int32) (v4 : Int32) (v5 : Option Nat) (C C9 : CT), CW B C → c_Section_init v0 v1 v2 v3 v4 v5 C = some C9 → g_Section_init B SA v0 v1 v2 v3 v4 v5 (ovC C h0, ck C) = some (ovC C9 h0, ck C9) ∧ CW B C9 := by
  intro v0 v1 v2 v3 v4 v5 C C9 hw h
  unfold c_Section_init at h
  unfold g_Section_init
  replace h := cnew_of h; refine jnew_go hw (by decide) ?_; replace hw := cw_new (ci := 6) hw (by decide)
  replace h := obd_of h; obtain ⟨C3, hC3, h⟩ := h; have hq := (t_Row_init hs _ _ _ _ hw hC3); refine obd_go hq.1 ?_; replace hw := hq.2
  replace h := obd_of h; obtain ⟨C4, hC4, h⟩ := h
  refine obd_go (cp_A rfl hw hC4).1 ?_; replace hw := (cp_A (h0 := h0) rfl hw hC4).2
  replace h := obd_of h; obtain ⟨C5, hC5, h⟩ := h
  refine obd_go (cp_I rfl hw hC5).1 ?_; replace hw := (cp_I (h0 := h0) rfl hw hC5).2
  replace h := obd_of h; obtain ⟨C6, hC6, h⟩ := h
  refine obd_go (cp_I rfl hw hC6).1 ?_; replace hw := (cp_I (h0 := h0) rfl hw hC6).2
  replace h := obd_of h; obtain ⟨C7, hC7, h⟩ := h
  refine obd_go (cp_I rfl hw hC7).1 ?_; replace hw := (cp_I (h0 := h0) rfl hw hC7).2
  replace h := obd_of h; obtain ⟨C8, hC8, h⟩ := h
  refine obd_go (cp_I rfl hw hC8).1 ?_; replace hw := (cp_I (h0 := h0) rfl hw hC8).2
  replace h := obd_of h; obtain ⟨C9, hC9, h⟩ := h
  refine obd_go (cp_I rfl hw hC9).1 ?_; replace hw := (cp_I (h0 := h0) rfl hw hC9).2
  replace h := obd_of h; obtain ⟨C10, hC10, h⟩ := h
  refine obd_go (cp_A rfl hw hC10).1 ?_; replace hw := (cp_A (h0 := h0) rfl hw hC10).2
  replace h := ite_or h; rcases h with ⟨hc, h⟩ | ⟨hc, h⟩
  · refine ite_goT hc ?_
    exact t_Section_init_60 hs _ _ _ _ _ hw h
  · refine ite_goF hc ?_
    replace h := obd_of h; obtain ⟨x11, hx11, h⟩ := h
    refine obd_go (cs_len hs hw hx11) ?_
    replace h := ite_or h; rcases h with ⟨hc, h⟩ | ⟨hc, h⟩
    · refine ite_goT hc ?_
      replace h := obd_of h; obtain ⟨x12, hx12, h⟩ := h
      refine obd_go (cs_I hs hw hx12) ?_
      exact t_Section_init_69 hs _ _ _ _ _ _ hw h
    · refine ite_goF hc ?_
      exact t_Section_init_60 hs _ _ _ _ _ hw h
set_option maxRecDepth 10000 in
set_option maxHeartbeats 4000000 in
theorem t_B_newSection {B : Nat} {SA : Nat → Nat} {h0 : Nat → Option JCell} (hs : CS B SA h0) : ∀ (v0 : Nat) (v1 : Int32) (v2 : Int32) (v3 : Int32) (v4 : Option Nat) (C : CT) (r : Option Nat) (C9 : CT), CW B C → c_B_newSection v0 v1 v2 v3 v4 C = some (r, C9) → g_B_newSection B SA v0 v1 v2 v3 v4 (ovC C h0, ck C) = some (r, (ovC C9 h0, ck C9)) ∧ CW B C9 := by
  intro v0 v1 v2 v3 v4 C r C9 hw h
  unfold c_B_newSection at h
  unfold g_B_newSection
  replace h := obd_of h; obtain ⟨x1, hx1, h⟩ := h
  refine obd_go (cg_I rfl hx1) ?_
  replace h := ite_or h; rcases h with ⟨hc, h⟩ | ⟨hc, h⟩
  · refine ite_goT hc ?_
    obtain ⟨rfl, rfl⟩ := Prod.mk.inj (Option.some.inj h); exact ⟨rfl, hw⟩
  · refine ite_goF hc ?_
    replace h := obd_of h; obtain ⟨x2, hx2, h⟩ := h
    refine obd_go (cg_I rfl hx2) ?_
    replace h := obd_of h; obtain ⟨x3, hx3, h⟩ := h
    refine obd_go (cg_A rfl hx3) ?_
    replace h := obd_of h; obtain ⟨a4, rfl, h⟩ := h; refine obd_go rfl ?_
    replace h := obd_of h; obtain ⟨x5, hx5, h⟩ := h
    refine obd_go (ca_len hx5) ?_
    replace h := ite_or h; rcases h with ⟨hc, h⟩ | ⟨hc, h⟩
    · refine ite_goT hc ?_
      replace h := cnew_of h; refine jnew_go hw (by decide) ?_; replace hw := cw_new (ci := 7) hw (by decide)
      replace h := obd_of h; obtain ⟨x8, hx8, h⟩ := h
      refine obd_go (cg_I rfl hx8) ?_
      replace h := obd_of h; obtain ⟨C9, hC9, h⟩ := h; have hq := (t_Section_init hs _ _ _ _ _ _ _ _ hw hC9); refine obd_go hq.1 ?_; replace hw := hq.2
      replace h := obd_of h; obtain ⟨x10, hx10, h⟩ := h
      refine obd_go (cg_A rfl hx10) ?_
      replace h := obd_of h; obtain ⟨x11, hx11, h⟩ := h
      refine obd_go (cg_I rfl hx11) ?_
      replace h := obd_of h; obtain ⟨a12, rfl, h⟩ := h; refine obd_go rfl ?_
      replace h := obd_of h; obtain ⟨C13, hC13, h⟩ := h
      refine obd_go (cq_A hw hC13).1 ?_; replace hw := (cq_A (h0 := h0) hw hC13).2
      replace h := obd_of h; obtain ⟨x14, hx14, h⟩ := h
      refine obd_go (cg_I rfl hx14) ?_
      replace h := obd_of h; obtain ⟨C15, hC15, h⟩ := h
      refine obd_go (cp_I rfl hw hC15).1 ?_; replace hw := (cp_I (h0 := h0) rfl hw hC15).2
      obtain ⟨rfl, rfl⟩ := Prod.mk.inj (Option.some.inj h); exact ⟨rfl, hw⟩
    · refine ite_goF hc ?_
      obtain ⟨rfl, rfl⟩ := Prod.mk.inj (Option.some.inj h); exact ⟨rfl, hw⟩
set_option maxRecDepth 10000 in
set_option maxHeartbeats 4000000 in
theorem t_B_numbersOf {B : Nat} {SA : Nat → Nat} {h0 : Nat → Option JCell} (hs : CS B SA h0) : ∀ (v0 : Nat) (v1 : Int32) (C : CT) (r : Option Nat), CW B C → c_B_numbersOf v0 v1 C = some r → g_B_numbersOf v0 v1 (ovC C h0) = some r ∧ True := by
  intro v0 v1 C r hw h
  unfold c_B_numbersOf at h
  unfold g_B_numbersOf
  replace h := ite_or h; rcases h with ⟨hc, h⟩ | ⟨hc, h⟩
  · refine ite_goT hc ?_
    replace h := obd_of h; obtain ⟨x1, hx1, h⟩ := h
    refine obd_go (cg_A rfl hx1) ?_
    obtain rfl := Option.some.inj h; exact ⟨rfl, trivial⟩
  · refine ite_goF hc ?_
    replace h := ite_or h; rcases h with ⟨hc, h⟩ | ⟨hc, h⟩
    · refine ite_goT hc ?_
      replace h := obd_of h; obtain ⟨x2, hx2, h⟩ := h
      refine obd_go (cg_A rfl hx2) ?_
      obtain rfl := Option.some.inj h; exact ⟨rfl, trivial⟩
    · refine ite_goF hc ?_
      replace h := ite_or h; rcases h with ⟨hc, h⟩ | ⟨hc, h⟩
      · refine ite_goT hc ?_
        replace h := obd_of h; obtain ⟨x3, hx3, h⟩ := h
        refine obd_go (cg_A rfl hx3) ?_
        obtain rfl := Option.some.inj h; exact ⟨rfl, trivial⟩
      · refine ite_goF hc ?_
        obtain rfl := Option.some.inj h; exact ⟨rfl, trivial⟩
set_option maxRecDepth 10000 in
set_option maxHeartbeats 4000000 in
theorem t_B_section {B : Nat} {SA : Nat → Nat} {h0 : Nat → Option JCell} (hs : CS B SA h0) : ∀ (v0 : Nat) (v1 : Int32) (v2 : Int32) (v3 : Int32) (C : CT) (r : Int32) (C9 : CT), CW B C → c_B_section v0 v1 v2 v3 C = some (r, C9) → g_B_section B SA v0 v1 v2 v3 (ovC C h0, ck C) = some (r, (ovC C9 h0, ck C9)) ∧ CW B C9 := by
  intro v0 v1 v2 v3 C r C9 hw h
  unfold c_B_section at h
  unfold g_B_section
  replace h := jgd_of h; obtain ⟨hb, h⟩ := h; refine jgd_go (c_job hb) ?_
  replace h := obd_of h; obtain ⟨x1, hx1, h⟩ := h; refine obd_go (t_B_numbersOf hs _ _ _ _ hw hx1).1 ?_
  replace h := jon_or h; rcases h with ⟨rfl, h⟩ | ⟨a2, rfl, h⟩
  · refine jon_goN ?_
    obtain ⟨rfl, rfl⟩ := Prod.mk.inj (Option.some.inj h); exact ⟨rfl, hw⟩
  · refine jon_goS ?_
    replace h := obd_of h; obtain ⟨x3, hx3, h⟩ := h; refine obd_go (t_B_isKind hs _ _ _ hw hx3).1 ?_
    replace h := ite_or h; rcases h with ⟨hc, h⟩ | ⟨hc, h⟩
    · refine ite_goT hc ?_
      replace h := obd_of h; obtain ⟨x4, hx4, h⟩ := h; refine obd_go (t_B_fitsKind hs _ _ _ _ hw hx4).1 ?_
      replace h := ite_or h; rcases h with ⟨hc, h⟩ | ⟨hc, h⟩
      · refine ite_goT hc ?_
        replace h := jgd_of h; obtain ⟨hb, h⟩ := h; refine jgd_go (c_job hb) ?_
        replace h := cbd2_of h; obtain ⟨x5, C6, hx5, h⟩ := h; have hq := (t_B_newSection hs _ _ _ _ _ _ _ _ hw hx5); refine jbd2_go hq.1 ?_; replace hw := hq.2
        replace h := jon_or h; rcases h with ⟨rfl, h⟩ | ⟨a7, rfl, h⟩
        · refine jon_goN ?_
          obtain ⟨rfl, rfl⟩ := Prod.mk.inj (Option.some.inj h); exact ⟨rfl, hw⟩
        · refine jon_goS ?_
          replace h := obd_of h; obtain ⟨x8, hx8, h⟩ := h
          refine obd_go (cg_I rfl hx8) ?_
          obtain ⟨rfl, rfl⟩ := Prod.mk.inj (Option.some.inj h); exact ⟨rfl, hw⟩
      · refine ite_goF hc ?_
        obtain ⟨rfl, rfl⟩ := Prod.mk.inj (Option.some.inj h); exact ⟨rfl, hw⟩
    · refine ite_goF hc ?_
      obtain ⟨rfl, rfl⟩ := Prod.mk.inj (Option.some.inj h); exact ⟨rfl, hw⟩
set_option maxRecDepth 10000 in
set_option maxHeartbeats 4000000 in
theorem t_B_sectionAt_21 {B : Nat} {SA : Nat → Nat} {h0 : Nat → Option JCell} (hs : CS B SA h0) : ∀ (C : CT) (r : Option Nat), CW B C → c_B_sectionAt_21 C = some r → g_B_sectionAt_21 (ovC C h0) = some r ∧ True := by
  intro C r hw h
  unfold c_B_sectionAt_21 at h
  unfold g_B_sectionAt_21
  obtain rfl := Option.some.inj h; exact ⟨rfl, trivial⟩
set_option maxRecDepth 10000 in
set_option maxHeartbeats 4000000 in
theorem t_B_sectionAt {B : Nat} {SA : Nat → Nat} {h0 : Nat → Option JCell} (hs : CS B SA h0) : ∀ (v0 : Nat) (v1 : Int32) (C : CT) (r : Option Nat), CW B C → c_B_sectionAt v0 v1 C = some r → g_B_sectionAt v0 v1 (ovC C h0) = some r ∧ True := by
  intro v0 v1 C r hw h
  unfold c_B_sectionAt at h
  unfold g_B_sectionAt
  replace h := ite_or h; rcases h with ⟨hc, h⟩ | ⟨hc, h⟩
  · refine ite_goT hc ?_
    exact t_B_sectionAt_21 hs  _ _ hw h
  · refine ite_goF hc ?_
    replace h := obd_of h; obtain ⟨x1, hx1, h⟩ := h
    refine obd_go (cg_I rfl hx1) ?_
    replace h := ite_or h; rcases h with ⟨hc, h⟩ | ⟨hc, h⟩
    · refine ite_goT hc ?_
      exact t_B_sectionAt_21 hs  _ _ hw h
    · refine ite_goF hc ?_
      replace h := obd_of h; obtain ⟨x2, hx2, h⟩ := h
      refine obd_go (cg_A rfl hx2) ?_
      replace h := obd_of h; obtain ⟨a3, rfl, h⟩ := h; refine obd_go rfl ?_
      replace h := obd_of h; obtain ⟨x4, hx4, h⟩ := h
      refine obd_go (ca_len hx4) ?_
      replace h := ite_or h; rcases h with ⟨hc, h⟩ | ⟨hc, h⟩
      · refine ite_goT hc ?_
        replace h := obd_of h; obtain ⟨x5, hx5, h⟩ := h
        refine obd_go (cg_A rfl hx5) ?_
        replace h := obd_of h; obtain ⟨a6, rfl, h⟩ := h; refine obd_go rfl ?_
        replace h := obd_of h; obtain ⟨x7, hx7, h⟩ := h
        refine obd_go (ca_A hx7) ?_
        obtain rfl := Option.some.inj h; exact ⟨rfl, trivial⟩
      · refine ite_goF hc ?_
        exact t_B_sectionAt_21 hs  _ _ hw h
set_option maxRecDepth 10000 in
set_option maxHeartbeats 4000000 in
theorem t_Real_isNumber {B : Nat} {SA : Nat → Nat} {h0 : Nat → Option JCell} (hs : CS B SA h0) : ∀ (v0 : Nat) (v1 : Int64) (C : CT) (r : Bool), CW B C → c_Real_isNumber v0 v1 C = some r → g_Real_isNumber v0 v1 (ovC C h0) = some r ∧ True := by
  intro v0 v1 C r hw h
  unfold c_Real_isNumber at h
  unfold g_Real_isNumber
  replace h := obd_of h; obtain ⟨x1, hx1, h⟩ := h
  refine obd_go (cg_J rfl hx1) ?_
  replace h := obd_of h; obtain ⟨x2, hx2, h⟩ := h
  refine obd_go (cg_J rfl hx2) ?_
  replace h := ite_or h; rcases h with ⟨hc, h⟩ | ⟨hc, h⟩
  · refine ite_goT hc ?_
    obtain rfl := Option.some.inj h; exact ⟨rfl, trivial⟩
  · refine ite_goF hc ?_
    obtain rfl := Option.some.inj h; exact ⟨rfl, trivial⟩
set_option maxRecDepth 10000 in
set_option maxHeartbeats 4000000 in
theorem t_Real_clean {B : Nat} {SA : Nat → Nat} {h0 : Nat → Option JCell} (hs : CS B SA h0) : ∀ (v0 : Nat) (v1 : Int64) (C : CT) (r : Int64), CW B C → c_Real_clean v0 v1 C = some r → g_Real_clean v0 v1 (ovC C h0) = some r ∧ True := by
  intro v0 v1 C r hw h
  unfold c_Real_clean at h
  unfold g_Real_clean
  replace h := jgd_of h; obtain ⟨hb, h⟩ := h; refine jgd_go (c_job hb) ?_
  replace h := obd_of h; obtain ⟨x1, hx1, h⟩ := h; refine obd_go (t_Real_isNumber hs _ _ _ _ hw hx1).1 ?_
  replace h := ite_or h; rcases h with ⟨hc, h⟩ | ⟨hc, h⟩
  · refine ite_goT hc ?_
    obtain rfl := Option.some.inj h; exact ⟨rfl, trivial⟩
  · refine ite_goF hc ?_
    replace h := obd_of h; obtain ⟨x2, hx2, h⟩ := h
    refine obd_go (cg_J rfl hx2) ?_
    obtain rfl := Option.some.inj h; exact ⟨rfl, trivial⟩
set_option maxRecDepth 10000 in
set_option maxHeartbeats 4000000 in
theorem t_Real_holds_17 {B : Nat} {SA : Nat → Nat} {h0 : Nat → Option JCell} (hs : CS B SA h0) : ∀ (C : CT) (r : Bool), CW B C → c_Real_holds_17 C = some r → g_Real_holds_17 (ovC C h0) = some r ∧ True := by
  intro C r hw h
  unfold c_Real_holds_17 at h
  unfold g_Real_holds_17
  obtain rfl := Option.some.inj h; exact ⟨rfl, trivial⟩
set_option maxRecDepth 10000 in
set_option maxHeartbeats 4000000 in
theorem t_Real_holds {B : Nat} {SA : Nat → Nat} {h0 : Nat → Option JCell} (hs : CS B SA h0) : ∀ (v0 : Nat) (v1 : Int64) (C : CT) (r : Bool), CW B C → c_Real_holds v0 v1 C = some r → g_Real_holds v0 v1 (ovC C h0) = some r ∧ True := by
  intro v0 v1 C r hw h
  unfold c_Real_holds at h
  unfold g_Real_holds
  replace h := obd_of h; obtain ⟨x1, hx1, h⟩ := h
  refine obd_go (cg_I rfl hx1) ?_
  replace h := ite_or h; rcases h with ⟨hc, h⟩ | ⟨hc, h⟩
  · refine ite_goT hc ?_
    exact t_Real_holds_17 hs  _ _ hw h
  · refine ite_goF hc ?_
    replace h := ite_or h; rcases h with ⟨hc, h⟩ | ⟨hc, h⟩
    · refine ite_goT hc ?_
      exact t_Real_holds_17 hs  _ _ hw h
    · refine ite_goF hc ?_
      obtain rfl := Option.some.inj h; exact ⟨rfl, trivial⟩
set_option maxRecDepth 10000 in
set_option maxHeartbeats 4000000 in
theorem t_Section_hasFactor {B : Nat} {SA : Nat → Nat} {h0 : Nat → Option JCell} (hs : CS B SA h0) : ∀ (v0 : Nat) (v1 : Int32) (C : CT) (r : Bool), CW B C → c_Section_hasFactor v0 v1 C = some r → g_Section_hasFactor v0 v1 (ovC C h0) = some r ∧ True := by
  intro v0 v1 C r hw h
  unfold c_Section_hasFactor at h
  unfold g_Section_hasFactor
  replace h := ite_or h; rcases h with ⟨hc, h⟩ | ⟨hc, h⟩
  · refine ite_goT hc ?_
    obtain rfl := Option.some.inj h; exact ⟨rfl, trivial⟩
  · refine ite_goF hc ?_
    replace h := obd_of h; obtain ⟨x1, hx1, h⟩ := h
    refine obd_go (cg_A rfl hx1) ?_
    replace h := obd_of h; obtain ⟨a2, rfl, h⟩ := h; refine obd_go rfl ?_
    replace h := obd_of h; obtain ⟨x3, hx3, h⟩ := h
    refine obd_go (ca_len hx3) ?_
    replace h := ite_or h; rcases h with ⟨hc, h⟩ | ⟨hc, h⟩
    · refine ite_goT hc ?_
      obtain rfl := Option.some.inj h; exact ⟨rfl, trivial⟩
    · refine ite_goF hc ?_
      obtain rfl := Option.some.inj h; exact ⟨rfl, trivial⟩
set_option maxRecDepth 10000 in
set_option maxHeartbeats 4000000 in
theorem t_Section_setFactor {B : Nat} {SA : Nat → Nat} {h0 : Nat → Option JCell} (hs : CS B SA h0) : ∀ (v0 : Nat) (v1 : Int32) (v2 : Int64) (C C9 : CT), CW B C → c_Section_setFactor v0 v1 v2 C = some C9 → g_Section_setFactor B v0 v1 v2 (ovC C h0, ck C) = some (ovC C9 h0, ck C9) ∧ CW B C9 := by
  intro v0 v1 v2 C C9 hw h
  unfold c_Section_setFactor at h
  unfold g_Section_setFactor
  replace h := ite_or h; rcases h with ⟨hc, h⟩ | ⟨hc, h⟩
  · refine ite_goT hc ?_
    obtain rfl := Option.some.inj h; exact ⟨rfl, hw⟩
  · refine ite_goF hc ?_
    replace h := obd_of h; obtain ⟨x1, hx1, h⟩ := h
    refine obd_go (cg_A rfl hx1) ?_
    replace h := obd_of h; obtain ⟨a2, rfl, h⟩ := h; refine obd_go rfl ?_
    replace h := obd_of h; obtain ⟨x3, hx3, h⟩ := h
    refine obd_go (ca_len hx3) ?_
    replace h := ite_or h; rcases h with ⟨hc, h⟩ | ⟨hc, h⟩
    · refine ite_goT hc ?_
      obtain rfl := Option.some.inj h; exact ⟨rfl, hw⟩
    · refine ite_goF hc ?_
      replace h := obd_of h; obtain ⟨x4, hx4, h⟩ := h
      refine obd_go (cg_A rfl hx4) ?_
      replace h := obd_of h; obtain ⟨a5, rfl, h⟩ := h; refine obd_go rfl ?_
      replace h := obd_of h; obtain ⟨C6, hC6, h⟩ := h
      refine obd_go (cq_J hw hC6).1 ?_; replace hw := (cq_J (h0 := h0) hw hC6).2
      obtain rfl := Option.some.inj h; exact ⟨rfl, hw⟩
set_option maxRecDepth 10000 in
set_option maxHeartbeats 4000000 in
theorem t_B_coefficient {B : Nat} {SA : Nat → Nat} {h0 : Nat → Option JCell} (hs : CS B SA h0) : ∀ (v0 : Nat) (v1 : Int32) (v2 : Int32) (v3 : Int64) (C : CT) (r : Bool) (C9 : CT), CW B C → c_B_coefficient v0 v1 v2 v3 C = some (r, C9) → g_B_coefficient B v0 v1 v2 v3 (ovC C h0, ck C) = some (r, (ovC C9 h0, ck C9)) ∧ CW B C9 := by
  intro v0 v1 v2 v3 C r C9 hw h
  unfold c_B_coefficient at h
  unfold g_B_coefficient
  replace h := jgd_of h; obtain ⟨hb, h⟩ := h; refine jgd_go (c_job hb) ?_
  replace h := obd_of h; obtain ⟨x1, hx1, h⟩ := h; refine obd_go (t_B_sectionAt hs _ _ _ _ hw hx1).1 ?_
  replace h := jon_or h; rcases h with ⟨rfl, h⟩ | ⟨a2, rfl, h⟩
  · refine jon_goN ?_
    obtain ⟨rfl, rfl⟩ := Prod.mk.inj (Option.some.inj h); exact ⟨rfl, hw⟩
  · refine jon_goS ?_
    replace h := jgd_of h; obtain ⟨hb, h⟩ := h; refine jgd_go (c_job hb) ?_
    replace h := obd_of h; obtain ⟨x3, hx3, h⟩ := h; refine obd_go (t_Section_hasFactor hs _ _ _ _ hw hx3).1 ?_
    replace h := ite_or h; rcases h with ⟨hc, h⟩ | ⟨hc, h⟩
    · refine ite_goT hc ?_
      replace h := obd_of h; obtain ⟨x4, hx4, h⟩ := h
      refine obd_go (cg_A rfl hx4) ?_
      replace h := obd_of h; obtain ⟨a5, rfl, h⟩ := h; refine obd_go rfl ?_
      replace h := obd_of h; obtain ⟨x6, hx6, h⟩ := h
      refine obd_go (y := x6) ?_ ?_
      · rcases ite_or hx6 with ⟨hb, hx⟩ | ⟨hb0, hx⟩
        · rw [if_pos (c_job hb)]; exact (t_Real_holds hs _ _ _ _ hw hx).1
        · obtain ⟨hb, hx⟩ := jgd_of hx; rw [if_neg (c_job_ne hb (by decide)), c_job hb]; exact hx
      replace h := ite_or h; rcases h with ⟨hc, h⟩ | ⟨hc, h⟩
      · refine ite_goT hc ?_
        replace h := obd_of h; obtain ⟨x7, hx7, h⟩ := h
        refine obd_go (cg_A rfl hx7) ?_
        replace h := obd_of h; obtain ⟨a8, rfl, h⟩ := h; refine obd_go rfl ?_
        replace h := obd_of h; obtain ⟨x9, hx9, h⟩ := h
        refine obd_go (y := x9) ?_ ?_
        · rcases ite_or hx9 with ⟨hb, hx⟩ | ⟨hb0, hx⟩
          · rw [if_pos (c_job hb)]; exact (t_Real_clean hs _ _ _ _ hw hx).1
          · obtain ⟨hb, hx⟩ := jgd_of hx; rw [if_neg (c_job_ne hb (by decide)), c_job hb]; exact hx
        replace h := jgd_of h; obtain ⟨hb, h⟩ := h; refine jgd_go (c_job hb) ?_
        replace h := obd_of h; obtain ⟨C10, hC10, h⟩ := h; have hq := (t_Section_setFactor hs _ _ _ _ _ hw hC10); refine obd_go hq.1 ?_; replace hw := hq.2
        obtain ⟨rfl, rfl⟩ := Prod.mk.inj (Option.some.inj h); exact ⟨rfl, hw⟩
      · refine ite_goF hc ?_
        obtain ⟨rfl, rfl⟩ := Prod.mk.inj (Option.some.inj h); exact ⟨rfl, hw⟩
    · refine ite_goF hc ?_
      obtain ⟨rfl, rfl⟩ := Prod.mk.inj (Option.some.inj h); exact ⟨rfl, hw⟩
set_option maxRecDepth 10000 in
set_option maxHeartbeats 4000000 in
theorem t_B_rule {B : Nat} {SA : Nat → Nat} {h0 : Nat → Option JCell} (hs : CS B SA h0) : ∀ (v0 : Nat) (v1 : Int32) (v2 : Int32) (v3 : Int32) (C : CT) (r : Bool) (C9 : CT), CW B C → c_B_rule v0 v1 v2 v3 C = some (r, C9) → g_B_rule B v0 v1 v2 v3 (ovC C h0, ck C) = some (r, (ovC C9 h0, ck C9)) ∧ CW B C9 := by
  intro v0 v1 v2 v3 C r C9 hw h
  unfold c_B_rule at h
  unfold g_B_rule
  replace h := jgd_of h; obtain ⟨hb, h⟩ := h; refine jgd_go (c_job hb) ?_
  replace h := obd_of h; obtain ⟨x1, hx1, h⟩ := h; refine obd_go (t_B_sectionAt hs _ _ _ _ hw hx1).1 ?_
  replace h := jon_or h; rcases h with ⟨rfl, h⟩ | ⟨a2, rfl, h⟩
  · refine jon_goN ?_
    obtain ⟨rfl, rfl⟩ := Prod.mk.inj (Option.some.inj h); exact ⟨rfl, hw⟩
  · refine jon_goS ?_
    replace h := obd_of h; obtain ⟨x3, hx3, h⟩ := h
    refine obd_go (cg_I rfl hx3) ?_
    replace h := ite_or h; rcases h with ⟨hc, h⟩ | ⟨hc, h⟩
    · refine ite_goT hc ?_
      replace h := ite_or h; rcases h with ⟨hc, h⟩ | ⟨hc, h⟩
      · refine ite_goT hc ?_
        obtain ⟨rfl, rfl⟩ := Prod.mk.inj (Option.some.inj h); exact ⟨rfl, hw⟩
      · refine ite_goF hc ?_
        replace h := ite_or h; rcases h with ⟨hc, h⟩ | ⟨hc, h⟩
        · refine ite_goT hc ?_
          obtain ⟨rfl, rfl⟩ := Prod.mk.inj (Option.some.inj h); exact ⟨rfl, hw⟩
        · refine ite_goF hc ?_
          replace h := ite_or h; rcases h with ⟨hc, h⟩ | ⟨hc, h⟩
          · refine ite_goT hc ?_
            obtain ⟨rfl, rfl⟩ := Prod.mk.inj (Option.some.inj h); exact ⟨rfl, hw⟩
          · refine ite_goF hc ?_
            replace h := ite_or h; rcases h with ⟨hc, h⟩ | ⟨hc, h⟩
            · refine ite_goT hc ?_
              replace h := obd_of h; obtain ⟨C4, hC4, h⟩ := h
              refine obd_go (cp_I rfl hw hC4).1 ?_; replace hw := (cp_I (h0 := h0) rfl hw hC4).2
              replace h := obd_of h; obtain ⟨C5, hC5, h⟩ := h
              refine obd_go (cp_I rfl hw hC5).1 ?_; replace hw := (cp_I (h0 := h0) rfl hw hC5).2
              obtain ⟨rfl, rfl⟩ := Prod.mk.inj (Option.some.inj h); exact ⟨rfl, hw⟩
            · refine ite_goF hc ?_
              obtain ⟨rfl, rfl⟩ := Prod.mk.inj (Option.some.inj h); exact ⟨rfl, hw⟩
    · refine ite_goF hc ?_
      obtain ⟨rfl, rfl⟩ := Prod.mk.inj (Option.some.inj h); exact ⟨rfl, hw⟩
set_option maxRecDepth 10000 in
set_option maxHeartbeats 4000000 in
theorem t_Row_index {B : Nat} {SA : Nat → Nat} {h0 : Nat → Option JCell} (hs : CS B SA h0) : ∀ (v0 : Nat) (v1 : Int32) (C : CT) (r : Int32), CW B C → c_Row_index v0 v1 C = some r → g_Row_index v0 v1 (ovC C h0) = some r ∧ True := by
  intro v0 v1 C r hw h
  unfold c_Row_index at h
  unfold g_Row_index
  replace h := obd_of h; obtain ⟨x1, hx1, h⟩ := h
  refine obd_go (cg_I rfl hx1) ?_
  replace h := obd_of h; obtain ⟨x2, hx2, h⟩ := h
  refine obd_go (cg_A rfl hx2) ?_
  replace h := obd_of h; obtain ⟨a3, rfl, h⟩ := h; refine obd_go rfl ?_
  replace h := obd_of h; obtain ⟨x4, hx4, h⟩ := h
  refine obd_go (ca_len hx4) ?_
  replace h := ite_or h; rcases h with ⟨hc, h⟩ | ⟨hc, h⟩
  · refine ite_goT hc ?_
    obtain rfl := Option.some.inj h; exact ⟨rfl, trivial⟩
  · refine ite_goF hc ?_
    replace h := obd_of h; obtain ⟨x5, hx5, h⟩ := h
    refine obd_go (cg_A rfl hx5) ?_
    replace h := obd_of h; obtain ⟨a6, rfl, h⟩ := h; refine obd_go rfl ?_
    replace h := obd_of h; obtain ⟨x7, hx7, h⟩ := h
    refine obd_go (ca_len hx7) ?_
    obtain rfl := Option.some.inj h; exact ⟨rfl, trivial⟩
set_option maxRecDepth 10000 in
set_option maxHeartbeats 4000000 in
theorem t_Row_at_13 {B : Nat} {SA : Nat → Nat} {h0 : Nat → Option JCell} (hs : CS B SA h0) : ∀ (C : CT) (r : Int64), CW B C → c_Row_at_13 C = some r → g_Row_at_13 (ovC C h0) = some r ∧ True := by
  intro C r hw h
  unfold c_Row_at_13 at h
  unfold g_Row_at_13
  obtain rfl := Option.some.inj h; exact ⟨rfl, trivial⟩
set_option maxRecDepth 10000 in
set_option maxHeartbeats 4000000 in
theorem t_Row_at {B : Nat} {SA : Nat → Nat} {h0 : Nat → Option JCell} (hs : CS B SA h0) : ∀ (v0 : Nat) (v1 : Int32) (C : CT) (r : Int64), CW B C → c_Row_at v0 v1 C = some r → g_Row_at v0 v1 (ovC C h0) = some r ∧ True := by
  intro v0 v1 C r hw h
  unfold c_Row_at at h
  unfold g_Row_at
  replace h := ite_or h; rcases h with ⟨hc, h⟩ | ⟨hc, h⟩
  · refine ite_goT hc ?_
    exact t_Row_at_13 hs  _ _ hw h
  · refine ite_goF hc ?_
    replace h := obd_of h; obtain ⟨x1, hx1, h⟩ := h
    refine obd_go (cg_A rfl hx1) ?_
    replace h := obd_of h; obtain ⟨a2, rfl, h⟩ := h; refine obd_go rfl ?_
    replace h := obd_of h; obtain ⟨x3, hx3, h⟩ := h
    refine obd_go (ca_len hx3) ?_
    replace h := ite_or h; rcases h with ⟨hc, h⟩ | ⟨hc, h⟩
    · refine ite_goT hc ?_
      replace h := obd_of h; obtain ⟨x4, hx4, h⟩ := h
      refine obd_go (cg_A rfl hx4) ?_
      replace h := jgd_of h; obtain ⟨hb, h⟩ := h; refine jgd_go (c_job hb) ?_
      replace h := obd_of h; obtain ⟨x5, hx5, h⟩ := h; refine obd_go (t_Row_index hs _ _ _ _ hw hx5).1 ?_
      replace h := obd_of h; obtain ⟨a6, rfl, h⟩ := h; refine obd_go rfl ?_
      replace h := obd_of h; obtain ⟨x7, hx7, h⟩ := h
      refine obd_go (ca_J hx7) ?_
      obtain rfl := Option.some.inj h; exact ⟨rfl, trivial⟩
    · refine ite_goF hc ?_
      exact t_Row_at_13 hs  _ _ hw h
set_option maxRecDepth 10000 in
set_option maxHeartbeats 4000000 in
theorem t_B_state {B : Nat} {SA : Nat → Nat} {h0 : Nat → Option JCell} (hs : CS B SA h0) : ∀ (v0 : Nat) (v1 : Int32) (v2 : Int32) (C : CT) (r : Int64), CW B C → c_B_state v0 v1 v2 C = some r → g_B_state v0 v1 v2 (ovC C h0) = some r ∧ True := by
  intro v0 v1 v2 C r hw h
  unfold c_B_state at h
  unfold g_B_state
  replace h := jgd_of h; obtain ⟨hb, h⟩ := h; refine jgd_go (c_job hb) ?_
  replace h := obd_of h; obtain ⟨x1, hx1, h⟩ := h; refine obd_go (t_B_sectionAt hs _ _ _ _ hw hx1).1 ?_
  replace h := jon_or h; rcases h with ⟨rfl, h⟩ | ⟨a2, rfl, h⟩
  · refine jon_goN ?_
    obtain rfl := Option.some.inj h; exact ⟨rfl, trivial⟩
  · refine jon_goS ?_
    replace h := ite_or h; rcases h with ⟨hc, h⟩ | ⟨hc, h⟩
    · refine ite_goT hc ?_
      replace h := obd_of h; obtain ⟨x3, hx3, h⟩ := h
      refine obd_go (cg_A rfl hx3) ?_
      replace h := obd_of h; obtain ⟨a4, rfl, h⟩ := h; refine obd_go rfl ?_
      replace h := jgd_of h; obtain ⟨hb, h⟩ := h; refine jgd_go (c_job hb) ?_
      replace h := obd_of h; obtain ⟨x5, hx5, h⟩ := h; refine obd_go (t_Row_at hs _ _ _ _ hw hx5).1 ?_
      obtain rfl := Option.some.inj h; exact ⟨rfl, trivial⟩
    · refine ite_goF hc ?_
      replace h := obd_of h; obtain ⟨x6, hx6, h⟩ := h
      refine obd_go (cg_A rfl hx6) ?_
      replace h := obd_of h; obtain ⟨a7, rfl, h⟩ := h; refine obd_go rfl ?_
      replace h := jgd_of h; obtain ⟨hb, h⟩ := h; refine jgd_go (c_job hb) ?_
      replace h := obd_of h; obtain ⟨x8, hx8, h⟩ := h; refine obd_go (t_Row_at hs _ _ _ _ hw hx8).1 ?_
      obtain rfl := Option.some.inj h; exact ⟨rfl, trivial⟩
set_option maxRecDepth 10000 in
set_option maxHeartbeats 4000000 in
theorem t_B_numberOf {B : Nat} {SA : Nat → Nat} {h0 : Nat → Option JCell} (hs : CS B SA h0) : ∀ (v0 : Option Nat) (C : CT) (r : Int32), CW B C → c_B_numberOf v0 C = some r → g_B_numberOf v0 (ovC C h0) = some r ∧ True := by
  intro v0 C r hw h
  unfold c_B_numberOf at h
  unfold g_B_numberOf
  replace h := jon_or h; rcases h with ⟨rfl, h⟩ | ⟨a1, rfl, h⟩
  · refine jon_goN ?_
    obtain rfl := Option.some.inj h; exact ⟨rfl, trivial⟩
  · refine jon_goS ?_
    replace h := obd_of h; obtain ⟨x2, hx2, h⟩ := h
    refine obd_go (cg_I rfl hx2) ?_
    obtain rfl := Option.some.inj h; exact ⟨rfl, trivial⟩
set_option maxRecDepth 10000 in
set_option maxHeartbeats 4000000 in
theorem t_B_about {B : Nat} {SA : Nat → Nat} {h0 : Nat → Option JCell} (hs : CS B SA h0) : ∀ (v0 : Nat) (v1 : Int32) (v2 : Int32) (C : CT) (r : Int32), CW B C → c_B_about v0 v1 v2 C = some r → g_B_about v0 v1 v2 (ovC C h0) = some r ∧ True := by
  intro v0 v1 v2 C r hw h
  unfold c_B_about at h
  unfold g_B_about
  replace h := jgd_of h; obtain ⟨hb, h⟩ := h; refine jgd_go (c_job hb) ?_
  replace h := obd_of h; obtain ⟨x1, hx1, h⟩ := h; refine obd_go (t_B_sectionAt hs _ _ _ _ hw hx1).1 ?_
  replace h := jon_or h; rcases h with ⟨rfl, h⟩ | ⟨a2, rfl, h⟩
  · refine jon_goN ?_
    obtain rfl := Option.some.inj h; exact ⟨rfl, trivial⟩
  · refine jon_goS ?_
    replace h := ite_or h; rcases h with ⟨hc, h⟩ | ⟨hc, h⟩
    · refine ite_goT hc ?_
      replace h := obd_of h; obtain ⟨x3, hx3, h⟩ := h
      refine obd_go (cg_I rfl hx3) ?_
      obtain rfl := Option.some.inj h; exact ⟨rfl, trivial⟩
    · refine ite_goF hc ?_
      replace h := ite_or h; rcases h with ⟨hc, h⟩ | ⟨hc, h⟩
      · refine ite_goT hc ?_
        replace h := obd_of h; obtain ⟨x4, hx4, h⟩ := h
        refine obd_go (cg_I rfl hx4) ?_
        obtain rfl := Option.some.inj h; exact ⟨rfl, trivial⟩
      · refine ite_goF hc ?_
        replace h := ite_or h; rcases h with ⟨hc, h⟩ | ⟨hc, h⟩
        · refine ite_goT hc ?_
          replace h := obd_of h; obtain ⟨x5, hx5, h⟩ := h
          refine obd_go (cg_I rfl hx5) ?_
          obtain rfl := Option.some.inj h; exact ⟨rfl, trivial⟩
        · refine ite_goF hc ?_
          replace h := ite_or h; rcases h with ⟨hc, h⟩ | ⟨hc, h⟩
          · refine ite_goT hc ?_
            replace h := obd_of h; obtain ⟨x6, hx6, h⟩ := h
            refine obd_go (cg_A rfl hx6) ?_
            replace h := obd_of h; obtain ⟨x7, hx7, h⟩ := h; refine obd_go (t_B_numberOf hs _ _ _ hw hx7).1 ?_
            obtain rfl := Option.some.inj h; exact ⟨rfl, trivial⟩
          · refine ite_goF hc ?_
            replace h := ite_or h; rcases h with ⟨hc, h⟩ | ⟨hc, h⟩
            · refine ite_goT hc ?_
              replace h := obd_of h; obtain ⟨x8, hx8, h⟩ := h
              refine obd_go (cg_I rfl hx8) ?_
              obtain rfl := Option.some.inj h; exact ⟨rfl, trivial⟩
            · refine ite_goF hc ?_
              replace h := ite_or h; rcases h with ⟨hc, h⟩ | ⟨hc, h⟩
              · refine ite_goT hc ?_
                replace h := obd_of h; obtain ⟨x9, hx9, h⟩ := h
                refine obd_go (cg_I rfl hx9) ?_
                obtain rfl := Option.some.inj h; exact ⟨rfl, trivial⟩
              · refine ite_goF hc ?_
                replace h := ite_or h; rcases h with ⟨hc, h⟩ | ⟨hc, h⟩
                · refine ite_goT hc ?_
                  replace h := obd_of h; obtain ⟨x10, hx10, h⟩ := h
                  refine obd_go (cg_I rfl hx10) ?_
                  obtain rfl := Option.some.inj h; exact ⟨rfl, trivial⟩
                · refine ite_goF hc ?_
                  replace h := ite_or h; rcases h with ⟨hc, h⟩ | ⟨hc, h⟩
                  · refine ite_goT hc ?_
                    replace h := obd_of h; obtain ⟨x11, hx11, h⟩ := h
                    refine obd_go (cg_A rfl hx11) ?_
                    replace h := obd_of h; obtain ⟨x12, hx12, h⟩ := h; refine obd_go (t_B_numberOf hs _ _ _ hw hx12).1 ?_
                    obtain rfl := Option.some.inj h; exact ⟨rfl, trivial⟩
                  · refine ite_goF hc ?_
                    replace h := ite_or h; rcases h with ⟨hc, h⟩ | ⟨hc, h⟩
                    · refine ite_goT hc ?_
                      replace h := obd_of h; obtain ⟨x13, hx13, h⟩ := h
                      refine obd_go (cg_I rfl hx13) ?_
                      obtain rfl := Option.some.inj h; exact ⟨rfl, trivial⟩
                    · refine ite_goF hc ?_
                      replace h := ite_or h; rcases h with ⟨hc, h⟩ | ⟨hc, h⟩
                      · refine ite_goT hc ?_
                        replace h := obd_of h; obtain ⟨x14, hx14, h⟩ := h
                        refine obd_go (cg_I rfl hx14) ?_
                        obtain rfl := Option.some.inj h; exact ⟨rfl, trivial⟩
                      · refine ite_goF hc ?_
                        obtain rfl := Option.some.inj h; exact ⟨rfl, trivial⟩
set_option maxRecDepth 10000 in
set_option maxHeartbeats 4000000 in
theorem t_Section_factor_13 {B : Nat} {SA : Nat → Nat} {h0 : Nat → Option JCell} (hs : CS B SA h0) : ∀ (C : CT) (r : Int64), CW B C → c_Section_factor_13 C = some r → g_Section_factor_13 (ovC C h0) = some r ∧ True := by
  intro C r hw h
  unfold c_Section_factor_13 at h
  unfold g_Section_factor_13
  obtain rfl := Option.some.inj h; exact ⟨rfl, trivial⟩
set_option maxRecDepth 10000 in
set_option maxHeartbeats 4000000 in
theorem t_Section_factor {B : Nat} {SA : Nat → Nat} {h0 : Nat → Option JCell} (hs : CS B SA h0) : ∀ (v0 : Nat) (v1 : Int32) (C : CT) (r : Int64), CW B C → c_Section_factor v0 v1 C = some r → g_Section_factor v0 v1 (ovC C h0) = some r ∧ True := by
  intro v0 v1 C r hw h
  unfold c_Section_factor at h
  unfold g_Section_factor
  replace h := ite_or h; rcases h with ⟨hc, h⟩ | ⟨hc, h⟩
  · refine ite_goT hc ?_
    exact t_Section_factor_13 hs  _ _ hw h
  · refine ite_goF hc ?_
    replace h := obd_of h; obtain ⟨x1, hx1, h⟩ := h
    refine obd_go (cg_A rfl hx1) ?_
    replace h := obd_of h; obtain ⟨a2, rfl, h⟩ := h; refine obd_go rfl ?_
    replace h := obd_of h; obtain ⟨x3, hx3, h⟩ := h
    refine obd_go (ca_len hx3) ?_
    replace h := ite_or h; rcases h with ⟨hc, h⟩ | ⟨hc, h⟩
    · refine ite_goT hc ?_
      replace h := obd_of h; obtain ⟨x4, hx4, h⟩ := h
      refine obd_go (cg_A rfl hx4) ?_
      replace h := obd_of h; obtain ⟨a5, rfl, h⟩ := h; refine obd_go rfl ?_
      replace h := obd_of h; obtain ⟨x6, hx6, h⟩ := h
      refine obd_go (ca_J hx6) ?_
      obtain rfl := Option.some.inj h; exact ⟨rfl, trivial⟩
    · refine ite_goF hc ?_
      exact t_Section_factor_13 hs  _ _ hw h
set_option maxRecDepth 10000 in
set_option maxHeartbeats 4000000 in
theorem t_B_told {B : Nat} {SA : Nat → Nat} {h0 : Nat → Option JCell} (hs : CS B SA h0) : ∀ (v0 : Nat) (v1 : Int32) (v2 : Int32) (C : CT) (r : Int64), CW B C → c_B_told v0 v1 v2 C = some r → g_B_told v0 v1 v2 (ovC C h0) = some r ∧ True := by
  intro v0 v1 v2 C r hw h
  unfold c_B_told at h
  unfold g_B_told
  replace h := jgd_of h; obtain ⟨hb, h⟩ := h; refine jgd_go (c_job hb) ?_
  replace h := obd_of h; obtain ⟨x1, hx1, h⟩ := h; refine obd_go (t_B_sectionAt hs _ _ _ _ hw hx1).1 ?_
  replace h := jon_or h; rcases h with ⟨rfl, h⟩ | ⟨a2, rfl, h⟩
  · refine jon_goN ?_
    obtain rfl := Option.some.inj h; exact ⟨rfl, trivial⟩
  · refine jon_goS ?_
    replace h := jgd_of h; obtain ⟨hb, h⟩ := h; refine jgd_go (c_job hb) ?_
    replace h := obd_of h; obtain ⟨x3, hx3, h⟩ := h; refine obd_go (t_Section_factor hs _ _ _ _ hw hx3).1 ?_
    obtain rfl := Option.some.inj h; exact ⟨rfl, trivial⟩
set_option maxRecDepth 10000 in
set_option maxHeartbeats 4000000 in
theorem t_B_registered {B : Nat} {SA : Nat → Nat} {h0 : Nat → Option JCell} (hs : CS B SA h0) : ∀ (v0 : Nat) (v1 : Option Nat) (C : CT) (r : Int32) (C9 : CT), CW B C → c_B_registered v0 v1 C = some (r, C9) → g_B_registered B v0 v1 (ovC C h0, ck C) = some (r, (ovC C9 h0, ck C9)) ∧ CW B C9 := by
  intro v0 v1 C r C9 hw h
  unfold c_B_registered at h
  unfold g_B_registered
  replace h := obd_of h; obtain ⟨x1, hx1, h⟩ := h
  refine obd_go (cg_I rfl hx1) ?_
  replace h := ite_or h; rcases h with ⟨hc, h⟩ | ⟨hc, h⟩
  · refine ite_goT hc ?_
    obtain ⟨rfl, rfl⟩ := Prod.mk.inj (Option.some.inj h); exact ⟨rfl, hw⟩
  · refine ite_goF hc ?_
    replace h := obd_of h; obtain ⟨x2, hx2, h⟩ := h
    refine obd_go (cg_I rfl hx2) ?_
    replace h := obd_of h; obtain ⟨x3, hx3, h⟩ := h
    refine obd_go (cg_A rfl hx3) ?_
    replace h := obd_of h; obtain ⟨a4, rfl, h⟩ := h; refine obd_go rfl ?_
    replace h := obd_of h; obtain ⟨x5, hx5, h⟩ := h
    refine obd_go (ca_len hx5) ?_
    replace h := ite_or h; rcases h with ⟨hc, h⟩ | ⟨hc, h⟩
    · refine ite_goT hc ?_
      replace h := obd_of h; obtain ⟨x6, hx6, h⟩ := h
      refine obd_go (cg_I rfl hx6) ?_
      replace h := obd_of h; obtain ⟨a7, rfl, h⟩ := h; refine obd_go rfl ?_
      replace h := obd_of h; obtain ⟨C8, hC8, h⟩ := h
      refine obd_go (cp_I rfl hw hC8).1 ?_; replace hw := (cp_I (h0 := h0) rfl hw hC8).2
      replace h := obd_of h; obtain ⟨x9, hx9, h⟩ := h
      refine obd_go (cg_A rfl hx9) ?_
      replace h := obd_of h; obtain ⟨x10, hx10, h⟩ := h
      refine obd_go (cg_I rfl hx10) ?_
      replace h := obd_of h; obtain ⟨a11, rfl, h⟩ := h; refine obd_go rfl ?_
      replace h := obd_of h; obtain ⟨C12, hC12, h⟩ := h
      refine obd_go (cq_A hw hC12).1 ?_; replace hw := (cq_A (h0 := h0) hw hC12).2
      replace h := obd_of h; obtain ⟨x13, hx13, h⟩ := h
      refine obd_go (cg_I rfl hx13) ?_
      replace h := obd_of h; obtain ⟨C14, hC14, h⟩ := h
      refine obd_go (cp_I rfl hw hC14).1 ?_; replace hw := (cp_I (h0 := h0) rfl hw hC14).2
      replace h := obd_of h; obtain ⟨x15, hx15, h⟩ := h
      refine obd_go (cg_I rfl hx15) ?_
      obtain ⟨rfl, rfl⟩ := Prod.mk.inj (Option.some.inj h); exact ⟨rfl, hw⟩
    · refine ite_goF hc ?_
      obtain ⟨rfl, rfl⟩ := Prod.mk.inj (Option.some.inj h); exact ⟨rfl, hw⟩
set_option maxRecDepth 10000 in
set_option maxHeartbeats 4000000 in
theorem t_Chain_init {B : Nat} {SA : Nat → Nat} {h0 : Nat → Option JCell} (hs : CS B SA h0) : ∀ (v0 : Nat) (C C9 : CT), CW B C → c_Chain_init v0 C = some C9 → g_Chain_init B v0 (ovC C h0, ck C) = some (ovC C9 h0, ck C9) ∧ CW B C9 := by
  intro v0 C C9 hw h
  unfold c_Chain_init at h
  unfold g_Chain_init
  replace h := obd_of h; obtain ⟨C1, hC1, h⟩ := h
  refine obd_go (cp_I rfl hw hC1).1 ?_; replace hw := (cp_I (h0 := h0) rfl hw hC1).2
  replace h := cbd2_of h; obtain ⟨a2, C3, ha2, h⟩ := h; refine jbd2_go (cn_R hw ha2).1 ?_; replace hw := (cn_R (h0 := h0) hw ha2).2
  replace h := obd_of h; obtain ⟨C4, hC4, h⟩ := h
  refine obd_go (cp_A rfl hw hC4).1 ?_; replace hw := (cp_A (h0 := h0) rfl hw hC4).2
  replace h := cbd2_of h; obtain ⟨a5, C6, ha5, h⟩ := h; refine jbd2_go (cn_R hw ha5).1 ?_; replace hw := (cn_R (h0 := h0) hw ha5).2
  replace h := obd_of h; obtain ⟨C7, hC7, h⟩ := h
  refine obd_go (cp_A rfl hw hC7).1 ?_; replace hw := (cp_A (h0 := h0) rfl hw hC7).2
  replace h := cbd2_of h; obtain ⟨a8, C9, ha8, h⟩ := h; refine jbd2_go (cn_J hw ha8).1 ?_; replace hw := (cn_J (h0 := h0) hw ha8).2
  replace h := obd_of h; obtain ⟨C10, hC10, h⟩ := h
  refine obd_go (cp_A rfl hw hC10).1 ?_; replace hw := (cp_A (h0 := h0) rfl hw hC10).2
  obtain rfl := Option.some.inj h; exact ⟨rfl, hw⟩
set_option maxRecDepth 10000 in
set_option maxHeartbeats 4000000 in
theorem t_B_chain {B : Nat} {SA : Nat → Nat} {h0 : Nat → Option JCell} (hs : CS B SA h0) : ∀ (v0 : Nat) (C : CT) (r : Int32) (C9 : CT), CW B C → c_B_chain v0 C = some (r, C9) → g_B_chain B v0 (ovC C h0, ck C) = some (r, (ovC C9 h0, ck C9)) ∧ CW B C9 := by
  intro v0 C r C9 hw h
  unfold c_B_chain at h
  unfold g_B_chain
  replace h := obd_of h; obtain ⟨x1, hx1, h⟩ := h
  refine obd_go (cg_I rfl hx1) ?_
  replace h := obd_of h; obtain ⟨x2, hx2, h⟩ := h
  refine obd_go (cg_A rfl hx2) ?_
  replace h := obd_of h; obtain ⟨a3, rfl, h⟩ := h; refine obd_go rfl ?_
  replace h := obd_of h; obtain ⟨x4, hx4, h⟩ := h
  refine obd_go (ca_len hx4) ?_
  replace h := ite_or h; rcases h with ⟨hc, h⟩ | ⟨hc, h⟩
  · refine ite_goT hc ?_
    replace h := cnew_of h; refine jnew_go hw (by decide) ?_; replace hw := cw_new (ci := 1) hw (by decide)
    replace h := obd_of h; obtain ⟨C7, hC7, h⟩ := h; have hq := (t_Chain_init hs _ _ _ hw hC7); refine obd_go hq.1 ?_; replace hw := hq.2
    replace h := jgd_of h; obtain ⟨hb, h⟩ := h; refine jgd_go (c_job hb) ?_
    replace h := cbd2_of h; obtain ⟨x8, C9, hx8, h⟩ := h; have hq := (t_B_registered hs _ _ _ _ _ hw hx8); refine jbd2_go hq.1 ?_; replace hw := hq.2
    obtain ⟨rfl, rfl⟩ := Prod.mk.inj (Option.some.inj h); exact ⟨rfl, hw⟩
  · refine ite_goF hc ?_
    obtain ⟨rfl, rfl⟩ := Prod.mk.inj (Option.some.inj h); exact ⟨rfl, hw⟩
set_option maxRecDepth 10000 in
set_option maxHeartbeats 4000000 in
theorem t_B_chainAt_21 {B : Nat} {SA : Nat → Nat} {h0 : Nat → Option JCell} (hs : CS B SA h0) : ∀ (C : CT) (r : Option Nat), CW B C → c_B_chainAt_21 C = some r → g_B_chainAt_21 (ovC C h0) = some r ∧ True := by
  intro C r hw h
  unfold c_B_chainAt_21 at h
  unfold g_B_chainAt_21
  obtain rfl := Option.some.inj h; exact ⟨rfl, trivial⟩
set_option maxRecDepth 10000 in
set_option maxHeartbeats 4000000 in
theorem t_B_chainAt {B : Nat} {SA : Nat → Nat} {h0 : Nat → Option JCell} (hs : CS B SA h0) : ∀ (v0 : Nat) (v1 : Int32) (C : CT) (r : Option Nat), CW B C → c_B_chainAt v0 v1 C = some r → g_B_chainAt v0 v1 (ovC C h0) = some r ∧ True := by
  intro v0 v1 C r hw h
  unfold c_B_chainAt at h
  unfold g_B_chainAt
  replace h := ite_or h; rcases h with ⟨hc, h⟩ | ⟨hc, h⟩
  · refine ite_goT hc ?_
    exact t_B_chainAt_21 hs  _ _ hw h
  · refine ite_goF hc ?_
    replace h := obd_of h; obtain ⟨x1, hx1, h⟩ := h
    refine obd_go (cg_I rfl hx1) ?_
    replace h := ite_or h; rcases h with ⟨hc, h⟩ | ⟨hc, h⟩
    · refine ite_goT hc ?_
      exact t_B_chainAt_21 hs  _ _ hw h
    · refine ite_goF hc ?_
      replace h := obd_of h; obtain ⟨x2, hx2, h⟩ := h
      refine obd_go (cg_A rfl hx2) ?_
      replace h := obd_of h; obtain ⟨a3, rfl, h⟩ := h; refine obd_go rfl ?_
      replace h := obd_of h; obtain ⟨x4, hx4, h⟩ := h
      refine obd_go (ca_len hx4) ?_
      replace h := ite_or h; rcases h with ⟨hc, h⟩ | ⟨hc, h⟩
      · refine ite_goT hc ?_
        replace h := obd_of h; obtain ⟨x5, hx5, h⟩ := h
        refine obd_go (cg_A rfl hx5) ?_
        replace h := obd_of h; obtain ⟨a6, rfl, h⟩ := h; refine obd_go rfl ?_
        replace h := obd_of h; obtain ⟨x7, hx7, h⟩ := h
        refine obd_go (ca_A hx7) ?_
        obtain rfl := Option.some.inj h; exact ⟨rfl, trivial⟩
      · refine ite_goF hc ?_
        exact t_B_chainAt_21 hs  _ _ hw h
set_option maxRecDepth 10000 in
set_option maxHeartbeats 4000000 in
theorem t_Chain_join {B : Nat} {SA : Nat → Nat} {h0 : Nat → Option JCell} (hs : CS B SA h0) : ∀ (v0 : Nat) (v1 : Option Nat) (C C9 : CT), CW B C → c_Chain_join v0 v1 C = some C9 → g_Chain_join B v0 v1 (ovC C h0, ck C) = some (ovC C9 h0, ck C9) ∧ CW B C9 := by
  intro v0 v1 C C9 hw h
  unfold c_Chain_join at h
  unfold g_Chain_join
  replace h := obd_of h; obtain ⟨x1, hx1, h⟩ := h
  refine obd_go (cg_I rfl hx1) ?_
  replace h := ite_or h; rcases h with ⟨hc, h⟩ | ⟨hc, h⟩
  · refine ite_goT hc ?_
    obtain rfl := Option.some.inj h; exact ⟨rfl, hw⟩
  · refine ite_goF hc ?_
    replace h := obd_of h; obtain ⟨x2, hx2, h⟩ := h
    refine obd_go (cg_I rfl hx2) ?_
    replace h := obd_of h; obtain ⟨x3, hx3, h⟩ := h
    refine obd_go (cg_A rfl hx3) ?_
    replace h := obd_of h; obtain ⟨a4, rfl, h⟩ := h; refine obd_go rfl ?_
    replace h := obd_of h; obtain ⟨x5, hx5, h⟩ := h
    refine obd_go (ca_len hx5) ?_
    replace h := ite_or h; rcases h with ⟨hc, h⟩ | ⟨hc, h⟩
    · refine ite_goT hc ?_
      obtain rfl := Option.some.inj h; exact ⟨rfl, hw⟩
    · refine ite_goF hc ?_
      replace h := obd_of h; obtain ⟨x6, hx6, h⟩ := h
      refine obd_go (cg_A rfl hx6) ?_
      replace h := obd_of h; obtain ⟨x7, hx7, h⟩ := h
      refine obd_go (cg_I rfl hx7) ?_
      replace h := obd_of h; obtain ⟨a8, rfl, h⟩ := h; refine obd_go rfl ?_
      replace h := obd_of h; obtain ⟨a9, rfl, h⟩ := h; refine obd_go rfl ?_
      replace h := obd_of h; obtain ⟨C10, hC10, h⟩ := h
      refine obd_go (cq_A hw hC10).1 ?_; replace hw := (cq_A (h0 := h0) hw hC10).2
      replace h := obd_of h; obtain ⟨C11, hC11, h⟩ := h
      refine obd_go (cp_A rfl hw hC11).1 ?_; replace hw := (cp_A (h0 := h0) rfl hw hC11).2
      replace h := obd_of h; obtain ⟨x12, hx12, h⟩ := h
      refine obd_go (cg_I rfl hx12) ?_
      replace h := obd_of h; obtain ⟨C13, hC13, h⟩ := h
      refine obd_go (cp_I rfl hw hC13).1 ?_; replace hw := (cp_I (h0 := h0) rfl hw hC13).2
      replace h := obd_of h; obtain ⟨x14, hx14, h⟩ := h
      refine obd_go (cg_I rfl hx14) ?_
      replace h := obd_of h; obtain ⟨C15, hC15, h⟩ := h
      refine obd_go (cp_I rfl hw hC15).1 ?_; replace hw := (cp_I (h0 := h0) rfl hw hC15).2
      obtain rfl := Option.some.inj h; exact ⟨rfl, hw⟩
set_option maxRecDepth 10000 in
set_option maxHeartbeats 4000000 in
theorem t_Chain_memberAt_21 {B : Nat} {SA : Nat → Nat} {h0 : Nat → Option JCell} (hs : CS B SA h0) : ∀ (C : CT) (r : Option Nat), CW B C → c_Chain_memberAt_21 C = some r → g_Chain_memberAt_21 (ovC C h0) = some r ∧ True := by
  intro C r hw h
  unfold c_Chain_memberAt_21 at h
  unfold g_Chain_memberAt_21
  obtain rfl := Option.some.inj h; exact ⟨rfl, trivial⟩
set_option maxRecDepth 10000 in
set_option maxHeartbeats 4000000 in
theorem t_Chain_memberAt {B : Nat} {SA : Nat → Nat} {h0 : Nat → Option JCell} (hs : CS B SA h0) : ∀ (v0 : Nat) (v1 : Int32) (C : CT) (r : Option Nat), CW B C → c_Chain_memberAt v0 v1 C = some r → g_Chain_memberAt v0 v1 (ovC C h0) = some r ∧ True := by
  intro v0 v1 C r hw h
  unfold c_Chain_memberAt at h
  unfold g_Chain_memberAt
  replace h := ite_or h; rcases h with ⟨hc, h⟩ | ⟨hc, h⟩
  · refine ite_goT hc ?_
    exact t_Chain_memberAt_21 hs  _ _ hw h
  · refine ite_goF hc ?_
    replace h := obd_of h; obtain ⟨x1, hx1, h⟩ := h
    refine obd_go (cg_I rfl hx1) ?_
    replace h := ite_or h; rcases h with ⟨hc, h⟩ | ⟨hc, h⟩
    · refine ite_goT hc ?_
      exact t_Chain_memberAt_21 hs  _ _ hw h
    · refine ite_goF hc ?_
      replace h := obd_of h; obtain ⟨x2, hx2, h⟩ := h
      refine obd_go (cg_A rfl hx2) ?_
      replace h := obd_of h; obtain ⟨a3, rfl, h⟩ := h; refine obd_go rfl ?_
      replace h := obd_of h; obtain ⟨x4, hx4, h⟩ := h
      refine obd_go (ca_len hx4) ?_
      replace h := ite_or h; rcases h with ⟨hc, h⟩ | ⟨hc, h⟩
      · refine ite_goT hc ?_
        replace h := obd_of h; obtain ⟨x5, hx5, h⟩ := h
        refine obd_go (cg_A rfl hx5) ?_
        replace h := obd_of h; obtain ⟨a6, rfl, h⟩ := h; refine obd_go rfl ?_
        replace h := obd_of h; obtain ⟨x7, hx7, h⟩ := h
        refine obd_go (ca_A hx7) ?_
        obtain rfl := Option.some.inj h; exact ⟨rfl, trivial⟩
      · refine ite_goF hc ?_
        exact t_Chain_memberAt_21 hs  _ _ hw h
set_option maxRecDepth 10000 in
set_option maxHeartbeats 4000000 in
theorem t_Chain_sort {B : Nat} {SA : Nat → Nat} {h0 : Nat → Option JCell} (hs : CS B SA h0) : ∀ (v0 : Nat) (C : CT) (r : Int32), CW B C → c_Chain_sort v0 C = some r → g_Chain_sort v0 (ovC C h0) = some r ∧ True := by
  intro v0 C r hw h
  unfold c_Chain_sort at h
  unfold g_Chain_sort
  replace h := jgd_of h; obtain ⟨hb, h⟩ := h; refine jgd_go (c_job hb) ?_
  replace h := obd_of h; obtain ⟨x1, hx1, h⟩ := h; refine obd_go (t_Chain_memberAt hs _ _ _ _ hw hx1).1 ?_
  replace h := jon_or h; rcases h with ⟨rfl, h⟩ | ⟨a2, rfl, h⟩
  · refine jon_goN ?_
    obtain rfl := Option.some.inj h; exact ⟨rfl, trivial⟩
  · refine jon_goS ?_
    replace h := obd_of h; obtain ⟨x3, hx3, h⟩ := h
    refine obd_go (cg_I rfl hx3) ?_
    obtain rfl := Option.some.inj h; exact ⟨rfl, trivial⟩
set_option maxRecDepth 10000 in
set_option maxHeartbeats 4000000 in
theorem t_Section_spreads_18 {B : Nat} {SA : Nat → Nat} {h0 : Nat → Option JCell} (hs : CS B SA h0) : ∀ (C : CT) (r : Bool), CW B C → c_Section_spreads_18 C = some r → g_Section_spreads_18 (ovC C h0) = some r ∧ True := by
  intro C r hw h
  unfold c_Section_spreads_18 at h
  unfold g_Section_spreads_18
  obtain rfl := Option.some.inj h; exact ⟨rfl, trivial⟩
set_option maxRecDepth 10000 in
set_option maxHeartbeats 4000000 in
theorem t_Section_spreads {B : Nat} {SA : Nat → Nat} {h0 : Nat → Option JCell} (hs : CS B SA h0) : ∀ (v0 : Nat) (C : CT) (r : Bool), CW B C → c_Section_spreads v0 C = some r → g_Section_spreads v0 (ovC C h0) = some r ∧ True := by
  intro v0 C r hw h
  unfold c_Section_spreads at h
  unfold g_Section_spreads
  replace h := obd_of h; obtain ⟨x1, hx1, h⟩ := h
  refine obd_go (cg_I rfl hx1) ?_
  replace h := ite_or h; rcases h with ⟨hc, h⟩ | ⟨hc, h⟩
  · refine ite_goT hc ?_
    exact t_Section_spreads_18 hs  _ _ hw h
  · refine ite_goF hc ?_
    replace h := obd_of h; obtain ⟨x2, hx2, h⟩ := h
    refine obd_go (cg_I rfl hx2) ?_
    replace h := ite_or h; rcases h with ⟨hc, h⟩ | ⟨hc, h⟩
    · refine ite_goT hc ?_
      exact t_Section_spreads_18 hs  _ _ hw h
    · refine ite_goF hc ?_
      obtain rfl := Option.some.inj h; exact ⟨rfl, trivial⟩
set_option maxRecDepth 10000 in
set_option maxHeartbeats 4000000 in
theorem t_Chain_spreaders_35 {N : Nat} {B : Nat} {SA : Nat → Nat} {h0 : Nat → Option JCell} (hs : CS B SA h0) {k4 : Nat → Int32 → Int32 → CT → Option (Int32)} {k4G : Nat → Int32 → Int32 → (Nat → Option JCell) → Option Int32} (i4 : ∀ (v0 : Nat) (v1 : Int32) (v2 : Int32) (C : CT) (r : Int32), CW B C → k4 v0 v1 v2 C = some r → k4G v0 v1 v2 (ovC C h0) = some r ∧ True) : ∀ (v0 : Nat) (v2 : Int32) (s0 : Bool) (s1 : Int32) (C : CT) (r : Int32), CW B C → c_Chain_spreaders_35 N k4 v0 v2 s0 s1 C = some r → g_Chain_spreaders_35 N k4G v0 v2 s0 s1 (ovC C h0) = some r ∧ True := by
  intro v0 v2 s0 s1 C r hw h
  unfold c_Chain_spreaders_35 at h
  unfold g_Chain_spreaders_35
  exact i4 _ _ _ _ _ hw h
set_option maxRecDepth 10000 in
set_option maxHeartbeats 4000000 in
theorem t_Chain_spreaders_34 {N : Nat} {B : Nat} {SA : Nat → Nat} {h0 : Nat → Option JCell} (hs : CS B SA h0) {k4 : Nat → Int32 → Int32 → CT → Option (Int32)} {k4G : Nat → Int32 → Int32 → (Nat → Option JCell) → Option Int32} (i4 : ∀ (v0 : Nat) (v1 : Int32) (v2 : Int32) (C : CT) (r : Int32), CW B C → k4 v0 v1 v2 C = some r → k4G v0 v1 v2 (ovC C h0) = some r ∧ True) : ∀ (v0 : Nat) (v2 : Int32) (s0 : Int32) (C : CT) (r : Int32), CW B C → c_Chain_spreaders_34 N k4 v0 v2 s0 C = some r → g_Chain_spreaders_34 N k4G v0 v2 s0 (ovC C h0) = some r ∧ True := by
  intro v0 v2 s0 C r hw h
  unfold c_Chain_spreaders_34 at h
  unfold g_Chain_spreaders_34
  exact t_Chain_spreaders_35 hs i4 _ _ _ _ _ _ hw h
set_option maxRecDepth 10000 in
set_option maxHeartbeats 4000000 in
theorem t_Chain_spreaders_4 {N : Nat} {B : Nat} {SA : Nat → Nat} {h0 : Nat → Option JCell} (hs : CS B SA h0) : ∀ (n : Nat), ∀ (v0 : Nat) (v1 : Int32) (v2 : Int32) (C : CT) (r : Int32), CW B C → c_Chain_spreaders_4 N n v0 v1 v2 C = some r → g_Chain_spreaders_4 N n v0 v1 v2 (ovC C h0) = some r ∧ True := by
  intro n
  induction n with
  | zero =>
    intro v0 v1 v2 C r hw h
    unfold c_Chain_spreaders_4 at h
    cases h
  | succ n ih =>
    intro v0 v1 v2 C r hw h
    unfold c_Chain_spreaders_4 at h
    unfold g_Chain_spreaders_4
    replace h := obd_of h; obtain ⟨x1, hx1, h⟩ := h
    refine obd_go (cg_I rfl hx1) ?_
    replace h := ite_or h; rcases h with ⟨hc, h⟩ | ⟨hc, h⟩
    · refine ite_goT hc ?_
      obtain rfl := Option.some.inj h; exact ⟨rfl, trivial⟩
    · refine ite_goF hc ?_
      replace h := jgd_of h; obtain ⟨hb, h⟩ := h; refine jgd_go (c_job hb) ?_
      replace h := obd_of h; obtain ⟨x2, hx2, h⟩ := h; refine obd_go (t_Chain_memberAt hs _ _ _ _ hw hx2).1 ?_
      replace h := jon_or h; rcases h with ⟨rfl, h⟩ | ⟨a3, rfl, h⟩
      · refine jon_goN ?_
        exact t_Chain_spreaders_34 hs ih _ _ _ _ _ hw h
      · refine jon_goS ?_
        replace h := jgd_of h; obtain ⟨hb, h⟩ := h; refine jgd_go (c_job hb) ?_
        replace h := obd_of h; obtain ⟨x4, hx4, h⟩ := h; refine obd_go (t_Section_spreads hs _ _ _ hw hx4).1 ?_
        replace h := ite_or h; rcases h with ⟨hc, h⟩ | ⟨hc, h⟩
        · refine ite_goT hc ?_
          exact t_Chain_spreaders_35 hs ih _ _ _ _ _ _ hw h
        · refine ite_goF hc ?_
          exact t_Chain_spreaders_34 hs ih _ _ _ _ _ hw h
set_option maxRecDepth 10000 in
set_option maxHeartbeats 4000000 in
theorem t_Chain_spreaders {N : Nat} {B : Nat} {SA : Nat → Nat} {h0 : Nat → Option JCell} (hs : CS B SA h0) : ∀ (v0 : Nat) (C : CT) (r : Int32), CW B C → c_Chain_spreaders N v0 C = some r → g_Chain_spreaders N v0 (ovC C h0) = some r ∧ True := by
  intro v0 C r hw h
  unfold c_Chain_spreaders at h
  unfold g_Chain_spreaders
  exact t_Chain_spreaders_4 hs _ _ _ _ _ _ hw h
set_option maxRecDepth 10000 in
set_option maxHeartbeats 4000000 in
theorem t_B_add_87 {N : Nat} {B : Nat} {SA : Nat → Nat} {h0 : Nat → Option JCell} (hs : CS B SA h0) : ∀ (v3 : Nat) (v4 : Nat) (C : CT) (r : Int32) (C9 : CT), CW B C → c_B_add_87 N v3 v4 C = some (r, C9) → g_B_add_87 N B v3 v4 (ovC C h0, ck C) = some (r, (ovC C9 h0, ck C9)) ∧ CW B C9 := by
  intro v3 v4 C r C9 hw h
  unfold c_B_add_87 at h
  unfold g_B_add_87
  replace h := jgd_of h; obtain ⟨hb, h⟩ := h; refine jgd_go (c_job hb) ?_
  replace h := obd_of h; obtain ⟨C1, hC1, h⟩ := h; have hq := (t_Chain_join hs _ _ _ _ hw hC1); refine obd_go hq.1 ?_; replace hw := hq.2
  replace h := obd_of h; obtain ⟨x2, hx2, h⟩ := h
  refine obd_go (cg_I rfl hx2) ?_
  obtain ⟨rfl, rfl⟩ := Prod.mk.inj (Option.some.inj h); exact ⟨rfl, hw⟩
set_option maxRecDepth 10000 in
set_option maxHeartbeats 4000000 in
theorem t_B_add_69 {N : Nat} {B : Nat} {SA : Nat → Nat} {h0 : Nat → Option JCell} (hs : CS B SA h0) : ∀ (v3 : Nat) (v4 : Nat) (C : CT) (r : Int32) (C9 : CT), CW B C → c_B_add_69 N v3 v4 C = some (r, C9) → g_B_add_69 N B v3 v4 (ovC C h0, ck C) = some (r, (ovC C9 h0, ck C9)) ∧ CW B C9 := by
  intro v3 v4 C r C9 hw h
  unfold c_B_add_69 at h
  unfold g_B_add_69
  replace h := jgd_of h; obtain ⟨hb, h⟩ := h; refine jgd_go (c_job hb) ?_
  replace h := obd_of h; obtain ⟨x1, hx1, h⟩ := h; refine obd_go (t_Section_spreads hs _ _ _ hw hx1).1 ?_
  replace h := ite_or h; rcases h with ⟨hc, h⟩ | ⟨hc, h⟩
  · refine ite_goT hc ?_
    replace h := jgd_of h; obtain ⟨hb, h⟩ := h; refine jgd_go (c_job hb) ?_
    replace h := obd_of h; obtain ⟨x2, hx2, h⟩ := h; refine obd_go (t_Chain_spreaders hs _ _ _ hw hx2).1 ?_
    replace h := ite_or h; rcases h with ⟨hc, h⟩ | ⟨hc, h⟩
    · refine ite_goT hc ?_
      exact t_B_add_87 hs _ _ _ _ _ hw h
    · refine ite_goF hc ?_
      obtain ⟨rfl, rfl⟩ := Prod.mk.inj (Option.some.inj h); exact ⟨rfl, hw⟩
  · refine ite_goF hc ?_
    exact t_B_add_87 hs _ _ _ _ _ hw h
set_option maxRecDepth 10000 in
set_option maxHeartbeats 4000000 in
theorem t_B_add {N : Nat} {B : Nat} {SA : Nat → Nat} {h0 : Nat → Option JCell} (hs : CS B SA h0) : ∀ (v0 : Nat) (v1 : Int32) (v2 : Int32) (C : CT) (r : Int32) (C9 : CT), CW B C → c_B_add N v0 v1 v2 C = some (r, C9) → g_B_add N B v0 v1 v2 (ovC C h0, ck C) = some (r, (ovC C9 h0, ck C9)) ∧ CW B C9 := by
  intro v0 v1 v2 C r C9 hw h
  unfold c_B_add at h
  unfold g_B_add
  replace h := jgd_of h; obtain ⟨hb, h⟩ := h; refine jgd_go (c_job hb) ?_
  replace h := obd_of h; obtain ⟨x1, hx1, h⟩ := h; refine obd_go (t_B_chainAt hs _ _ _ _ hw hx1).1 ?_
  replace h := jgd_of h; obtain ⟨hb, h⟩ := h; refine jgd_go (c_job hb) ?_
  replace h := obd_of h; obtain ⟨x2, hx2, h⟩ := h; refine obd_go (t_B_sectionAt hs _ _ _ _ hw hx2).1 ?_
  replace h := jon_or h; rcases h with ⟨rfl, h⟩ | ⟨a3, rfl, h⟩
  · refine jon_goN ?_
    obtain ⟨rfl, rfl⟩ := Prod.mk.inj (Option.some.inj h); exact ⟨rfl, hw⟩
  · refine jon_goS ?_
    replace h := jon_or h; rcases h with ⟨rfl, h⟩ | ⟨a4, rfl, h⟩
    · refine jon_goN ?_
      obtain ⟨rfl, rfl⟩ := Prod.mk.inj (Option.some.inj h); exact ⟨rfl, hw⟩
    · refine jon_goS ?_
      replace h := obd_of h; obtain ⟨x5, hx5, h⟩ := h
      refine obd_go (cg_A rfl hx5) ?_
      replace h := jon_or h; rcases h with ⟨rfl, h⟩ | ⟨a6, rfl, h⟩
      · refine jon_goN ?_
        replace h := obd_of h; obtain ⟨x7, hx7, h⟩ := h
        refine obd_go (cg_A rfl hx7) ?_
        replace h := jon_or h; rcases h with ⟨rfl, h⟩ | ⟨a8, rfl, h⟩
        · refine jon_goN ?_
          replace h := obd_of h; obtain ⟨x9, hx9, h⟩ := h
          refine obd_go (cg_I rfl hx9) ?_
          replace h := ite_or h; rcases h with ⟨hc, h⟩ | ⟨hc, h⟩
          · refine ite_goT hc ?_
            obtain ⟨rfl, rfl⟩ := Prod.mk.inj (Option.some.inj h); exact ⟨rfl, hw⟩
          · refine ite_goF hc ?_
            replace h := obd_of h; obtain ⟨x10, hx10, h⟩ := h
            refine obd_go (cg_I rfl hx10) ?_
            replace h := ite_or h; rcases h with ⟨hc, h⟩ | ⟨hc, h⟩
            · refine ite_goT hc ?_
              exact t_B_add_69 hs _ _ _ _ _ hw h
            · refine ite_goF hc ?_
              replace h := jgd_of h; obtain ⟨hb, h⟩ := h; refine jgd_go (c_job hb) ?_
              replace h := obd_of h; obtain ⟨x11, hx11, h⟩ := h; refine obd_go (t_Chain_sort hs _ _ _ hw hx11).1 ?_
              replace h := obd_of h; obtain ⟨x12, hx12, h⟩ := h
              refine obd_go (cg_I rfl hx12) ?_
              replace h := ite_or h; rcases h with ⟨hc, h⟩ | ⟨hc, h⟩
              · refine ite_goT hc ?_
                exact t_B_add_69 hs _ _ _ _ _ hw h
              · refine ite_goF hc ?_
                obtain ⟨rfl, rfl⟩ := Prod.mk.inj (Option.some.inj h); exact ⟨rfl, hw⟩
        · refine jon_goS ?_
          obtain ⟨rfl, rfl⟩ := Prod.mk.inj (Option.some.inj h); exact ⟨rfl, hw⟩
      · refine jon_goS ?_
        obtain ⟨rfl, rfl⟩ := Prod.mk.inj (Option.some.inj h); exact ⟨rfl, hw⟩
set_option maxRecDepth 10000 in
set_option maxHeartbeats 4000000 in
theorem t_Section_changesRate_16 {B : Nat} {SA : Nat → Nat} {h0 : Nat → Option JCell} (hs : CS B SA h0) : ∀ (C : CT) (r : Bool), CW B C → c_Section_changesRate_16 C = some r → g_Section_changesRate_16 (ovC C h0) = some r ∧ True := by
  intro C r hw h
  unfold c_Section_changesRate_16 at h
  unfold g_Section_changesRate_16
  obtain rfl := Option.some.inj h; exact ⟨rfl, trivial⟩
set_option maxRecDepth 10000 in
set_option maxHeartbeats 4000000 in
theorem t_Section_changesRate {B : Nat} {SA : Nat → Nat} {h0 : Nat → Option JCell} (hs : CS B SA h0) : ∀ (v0 : Nat) (C : CT) (r : Bool), CW B C → c_Section_changesRate v0 C = some r → g_Section_changesRate v0 (ovC C h0) = some r ∧ True := by
  intro v0 C r hw h
  unfold c_Section_changesRate at h
  unfold g_Section_changesRate
  replace h := obd_of h; obtain ⟨x1, hx1, h⟩ := h
  refine obd_go (cg_I rfl hx1) ?_
  replace h := ite_or h; rcases h with ⟨hc, h⟩ | ⟨hc, h⟩
  · refine ite_goT hc ?_
    exact t_Section_changesRate_16 hs  _ _ hw h
  · refine ite_goF hc ?_
    replace h := jgd_of h; obtain ⟨hb, h⟩ := h; refine jgd_go (c_job hb) ?_
    replace h := obd_of h; obtain ⟨x2, hx2, h⟩ := h; refine obd_go (t_Section_spreads hs _ _ _ hw hx2).1 ?_
    replace h := ite_or h; rcases h with ⟨hc, h⟩ | ⟨hc, h⟩
    · refine ite_goT hc ?_
      exact t_Section_changesRate_16 hs  _ _ hw h
    · refine ite_goF hc ?_
      obtain rfl := Option.some.inj h; exact ⟨rfl, trivial⟩
set_option maxRecDepth 10000 in
set_option maxHeartbeats 4000000 in
theorem t_Chain_changesRate_45 {N : Nat} {B : Nat} {SA : Nat → Nat} {h0 : Nat → Option JCell} (hs : CS B SA h0) {k10 : Nat → Int32 → Int32 → CT → Option (Bool)} {k10G : Nat → Int32 → Int32 → (Nat → Option JCell) → Option Bool} (i10 : ∀ (v0 : Nat) (v2 : Int32) (v3 : Int32) (C : CT) (r : Bool), CW B C → k10 v0 v2 v3 C = some r → k10G v0 v2 v3 (ovC C h0) = some r ∧ True) : ∀ (v0 : Nat) (v2 : Int32) (v3 : Int32) (C : CT) (r : Bool), CW B C → c_Chain_changesRate_45 N k10 v0 v2 v3 C = some r → g_Chain_changesRate_45 N k10G v0 v2 v3 (ovC C h0) = some r ∧ True := by
  intro v0 v2 v3 C r hw h
  unfold c_Chain_changesRate_45 at h
  unfold g_Chain_changesRate_45
  exact i10 _ _ _ _ _ hw h
set_option maxRecDepth 10000 in
set_option maxHeartbeats 4000000 in
theorem t_Chain_changesRate_10 {N : Nat} {B : Nat} {SA : Nat → Nat} {h0 : Nat → Option JCell} (hs : CS B SA h0) : ∀ (n : Nat), ∀ (v0 : Nat) (v2 : Int32) (v3 : Int32) (C : CT) (r : Bool), CW B C → c_Chain_changesRate_10 N n v0 v2 v3 C = some r → g_Chain_changesRate_10 N n v0 v2 v3 (ovC C h0) = some r ∧ True := by
  intro n
  induction n with
  | zero =>
    intro v0 v2 v3 C r hw h
    unfold c_Chain_changesRate_10 at h
    cases h
  | succ n ih =>
    intro v0 v2 v3 C r hw h
    unfold c_Chain_changesRate_10 at h
    unfold g_Chain_changesRate_10
    replace h := ite_or h; rcases h with ⟨hc, h⟩ | ⟨hc, h⟩
    · refine ite_goT hc ?_
      obtain rfl := Option.some.inj h; exact ⟨rfl, trivial⟩
    · refine ite_goF hc ?_
      replace h := obd_of h; obtain ⟨x1, hx1, h⟩ := h
      refine obd_go (cg_I rfl hx1) ?_
      replace h := ite_or h; rcases h with ⟨hc, h⟩ | ⟨hc, h⟩
      · refine ite_goT hc ?_
        obtain rfl := Option.some.inj h; exact ⟨rfl, trivial⟩
      · refine ite_goF hc ?_
        replace h := jgd_of h; obtain ⟨hb, h⟩ := h; refine jgd_go (c_job hb) ?_
        replace h := obd_of h; obtain ⟨x2, hx2, h⟩ := h; refine obd_go (t_Chain_memberAt hs _ _ _ _ hw hx2).1 ?_
        replace h := jon_or h; rcases h with ⟨rfl, h⟩ | ⟨a3, rfl, h⟩
        · refine jon_goN ?_
          exact t_Chain_changesRate_45 hs ih _ _ _ _ _ hw h
        · refine jon_goS ?_
          replace h := jgd_of h; obtain ⟨hb, h⟩ := h; refine jgd_go (c_job hb) ?_
          replace h := obd_of h; obtain ⟨x4, hx4, h⟩ := h; refine obd_go (t_Section_changesRate hs _ _ _ hw hx4).1 ?_
          replace h := ite_or h; rcases h with ⟨hc, h⟩ | ⟨hc, h⟩
          · refine ite_goT hc ?_
            obtain rfl := Option.some.inj h; exact ⟨rfl, trivial⟩
          · refine ite_goF hc ?_
            exact t_Chain_changesRate_45 hs ih _ _ _ _ _ hw h
set_option maxRecDepth 10000 in
set_option maxHeartbeats 4000000 in
theorem t_Chain_changesRate_9 {N : Nat} {B : Nat} {SA : Nat → Nat} {h0 : Nat → Option JCell} (hs : CS B SA h0) : ∀ (v0 : Nat) (v2 : Int32) (s0 : Int32) (C : CT) (r : Bool), CW B C → c_Chain_changesRate_9 N v0 v2 s0 C = some r → g_Chain_changesRate_9 N v0 v2 s0 (ovC C h0) = some r ∧ True := by
  intro v0 v2 s0 C r hw h
  unfold c_Chain_changesRate_9 at h
  unfold g_Chain_changesRate_9
  exact t_Chain_changesRate_10 hs _ _ _ _ _ _ hw h
set_option maxRecDepth 10000 in
set_option maxHeartbeats 4000000 in
theorem t_Chain_changesRate {N : Nat} {B : Nat} {SA : Nat → Nat} {h0 : Nat → Option JCell} (hs : CS B SA h0) : ∀ (v0 : Nat) (v1 : Int32) (v2 : Int32) (C : CT) (r : Bool), CW B C → c_Chain_changesRate N v0 v1 v2 C = some r → g_Chain_changesRate N v0 v1 v2 (ovC C h0) = some r ∧ True := by
  intro v0 v1 v2 C r hw h
  unfold c_Chain_changesRate at h
  unfold g_Chain_changesRate
  replace h := ite_or h; rcases h with ⟨hc, h⟩ | ⟨hc, h⟩
  · refine ite_goT hc ?_
    exact t_Chain_changesRate_9 hs _ _ _ _ _ hw h
  · refine ite_goF hc ?_
    exact t_Chain_changesRate_9 hs _ _ _ _ _ hw h
set_option maxRecDepth 10000 in
set_option maxHeartbeats 4000000 in
theorem t_Chain_tie {B : Nat} {SA : Nat → Nat} {h0 : Nat → Option JCell} (hs : CS B SA h0) : ∀ (v0 : Nat) (v1 : Option Nat) (C C9 : CT), CW B C → c_Chain_tie v0 v1 C = some C9 → g_Chain_tie B v0 v1 (ovC C h0, ck C) = some (ovC C9 h0, ck C9) ∧ CW B C9 := by
  intro v0 v1 C C9 hw h
  unfold c_Chain_tie at h
  unfold g_Chain_tie
  replace h := obd_of h; obtain ⟨x1, hx1, h⟩ := h
  refine obd_go (cg_I rfl hx1) ?_
  replace h := ite_or h; rcases h with ⟨hc, h⟩ | ⟨hc, h⟩
  · refine ite_goT hc ?_
    obtain rfl := Option.some.inj h; exact ⟨rfl, hw⟩
  · refine ite_goF hc ?_
    replace h := obd_of h; obtain ⟨x2, hx2, h⟩ := h
    refine obd_go (cg_I rfl hx2) ?_
    replace h := obd_of h; obtain ⟨x3, hx3, h⟩ := h
    refine obd_go (cg_A rfl hx3) ?_
    replace h := obd_of h; obtain ⟨a4, rfl, h⟩ := h; refine obd_go rfl ?_
    replace h := obd_of h; obtain ⟨x5, hx5, h⟩ := h
    refine obd_go (ca_len hx5) ?_
    replace h := ite_or h; rcases h with ⟨hc, h⟩ | ⟨hc, h⟩
    · refine ite_goT hc ?_
      obtain rfl := Option.some.inj h; exact ⟨rfl, hw⟩
    · refine ite_goF hc ?_
      replace h := obd_of h; obtain ⟨x6, hx6, h⟩ := h
      refine obd_go (cg_A rfl hx6) ?_
      replace h := obd_of h; obtain ⟨x7, hx7, h⟩ := h
      refine obd_go (cg_I rfl hx7) ?_
      replace h := obd_of h; obtain ⟨a8, rfl, h⟩ := h; refine obd_go rfl ?_
      replace h := obd_of h; obtain ⟨a9, rfl, h⟩ := h; refine obd_go rfl ?_
      replace h := obd_of h; obtain ⟨C10, hC10, h⟩ := h
      refine obd_go (cq_A hw hC10).1 ?_; replace hw := (cq_A (h0 := h0) hw hC10).2
      replace h := obd_of h; obtain ⟨x11, hx11, h⟩ := h
      refine obd_go (cg_I rfl hx11) ?_
      replace h := obd_of h; obtain ⟨C12, hC12, h⟩ := h
      refine obd_go (cp_I rfl hw hC12).1 ?_; replace hw := (cp_I (h0 := h0) rfl hw hC12).2
      obtain rfl := Option.some.inj h; exact ⟨rfl, hw⟩
set_option maxRecDepth 10000 in
set_option maxHeartbeats 4000000 in
theorem t_Loop_init {B : Nat} {SA : Nat → Nat} {h0 : Nat → Option JCell} (hs : CS B SA h0) : ∀ (v0 : Nat) (v1 : Int32) (v2 : Int32) (v3 : Int32) (v4 : Int64) (C C9 : CT), CW B C → c_Loop_init v0 v1 v2 v3 v4 C = some C9 → g_Loop_init B v0 v1 v2 v3 v4 (ovC C h0, ck C) = some (ovC C9 h0, ck C9) ∧ CW B C9 := by
  intro v0 v1 v2 v3 v4 C C9 hw h
  unfold c_Loop_init at h
  unfold g_Loop_init
  replace h := obd_of h; obtain ⟨C1, hC1, h⟩ := h
  refine obd_go (cp_I rfl hw hC1).1 ?_; replace hw := (cp_I (h0 := h0) rfl hw hC1).2
  replace h := obd_of h; obtain ⟨C2, hC2, h⟩ := h
  refine obd_go (cp_I rfl hw hC2).1 ?_; replace hw := (cp_I (h0 := h0) rfl hw hC2).2
  replace h := obd_of h; obtain ⟨C3, hC3, h⟩ := h
  refine obd_go (cp_J rfl hw hC3).1 ?_; replace hw := (cp_J (h0 := h0) rfl hw hC3).2
  replace h := cnew_of h; refine jnew_go hw (by decide) ?_; replace hw := cw_new (ci := 6) hw (by decide)
  replace h := obd_of h; obtain ⟨C6, hC6, h⟩ := h; have hq := (t_Row_init hs _ _ _ _ hw hC6); refine obd_go hq.1 ?_; replace hw := hq.2
  replace h := obd_of h; obtain ⟨C7, hC7, h⟩ := h
  refine obd_go (cp_A rfl hw hC7).1 ?_; replace hw := (cp_A (h0 := h0) rfl hw hC7).2
  obtain rfl := Option.some.inj h; exact ⟨rfl, hw⟩
set_option maxRecDepth 10000 in
set_option maxHeartbeats 4000000 in
theorem t_B_loop {N : Nat} {B : Nat} {SA : Nat → Nat} {h0 : Nat → Option JCell} (hs : CS B SA h0) : ∀ (v0 : Nat) (v1 : Int32) (v2 : Int32) (v3 : Int32) (v4 : Int32) (v5 : Int64) (C : CT) (r : Int32) (C9 : CT), CW B C → c_B_loop N v0 v1 v2 v3 v4 v5 C = some (r, C9) → g_B_loop N B v0 v1 v2 v3 v4 v5 (ovC C h0, ck C) = some (r, (ovC C9 h0, ck C9)) ∧ CW B C9 := by
  intro v0 v1 v2 v3 v4 v5 C r C9 hw h
  unfold c_B_loop at h
  unfold g_B_loop
  replace h := jgd_of h; obtain ⟨hb, h⟩ := h; refine jgd_go (c_job hb) ?_
  replace h := obd_of h; obtain ⟨x1, hx1, h⟩ := h; refine obd_go (t_B_chainAt hs _ _ _ _ hw hx1).1 ?_
  replace h := jon_or h; rcases h with ⟨rfl, h⟩ | ⟨a2, rfl, h⟩
  · refine jon_goN ?_
    obtain ⟨rfl, rfl⟩ := Prod.mk.inj (Option.some.inj h); exact ⟨rfl, hw⟩
  · refine jon_goS ?_
    replace h := obd_of h; obtain ⟨x3, hx3, h⟩ := h
    refine obd_go (cg_A rfl hx3) ?_
    replace h := jon_or h; rcases h with ⟨rfl, h⟩ | ⟨a4, rfl, h⟩
    · refine jon_goN ?_
      replace h := obd_of h; obtain ⟨x5, hx5, h⟩ := h
      refine obd_go (cg_I rfl hx5) ?_
      replace h := ite_or h; rcases h with ⟨hc, h⟩ | ⟨hc, h⟩
      · refine ite_goT hc ?_
        replace h := ite_or h; rcases h with ⟨hc, h⟩ | ⟨hc, h⟩
        · refine ite_goT hc ?_
          obtain ⟨rfl, rfl⟩ := Prod.mk.inj (Option.some.inj h); exact ⟨rfl, hw⟩
        · refine ite_goF hc ?_
          replace h := ite_or h; rcases h with ⟨hc, h⟩ | ⟨hc, h⟩
          · refine ite_goT hc ?_
            obtain ⟨rfl, rfl⟩ := Prod.mk.inj (Option.some.inj h); exact ⟨rfl, hw⟩
          · refine ite_goF hc ?_
            replace h := obd_of h; obtain ⟨x6, hx6, h⟩ := h
            refine obd_go (cg_I rfl hx6) ?_
            replace h := ite_or h; rcases h with ⟨hc, h⟩ | ⟨hc, h⟩
            · refine ite_goT hc ?_
              obtain ⟨rfl, rfl⟩ := Prod.mk.inj (Option.some.inj h); exact ⟨rfl, hw⟩
            · refine ite_goF hc ?_
              replace h := ite_or h; rcases h with ⟨hc, h⟩ | ⟨hc, h⟩
              · refine ite_goT hc ?_
                obtain ⟨rfl, rfl⟩ := Prod.mk.inj (Option.some.inj h); exact ⟨rfl, hw⟩
              · refine ite_goF hc ?_
                replace h := ite_or h; rcases h with ⟨hc, h⟩ | ⟨hc, h⟩
                · refine ite_goT hc ?_
                  obtain ⟨rfl, rfl⟩ := Prod.mk.inj (Option.some.inj h); exact ⟨rfl, hw⟩
                · refine ite_goF hc ?_
                  replace h := jgd_of h; obtain ⟨hb, h⟩ := h; refine jgd_go (c_job hb) ?_
                  replace h := obd_of h; obtain ⟨x7, hx7, h⟩ := h; refine obd_go (t_Chain_changesRate hs _ _ _ _ _ hw hx7).1 ?_
                  replace h := ite_or h; rcases h with ⟨hc, h⟩ | ⟨hc, h⟩
                  · refine ite_goT hc ?_
                    obtain ⟨rfl, rfl⟩ := Prod.mk.inj (Option.some.inj h); exact ⟨rfl, hw⟩
                  · refine ite_goF hc ?_
                    replace h := jgd_of h; obtain ⟨hb, h⟩ := h; refine jgd_go (c_job hb) ?_
                    replace h := obd_of h; obtain ⟨x8, hx8, h⟩ := h; refine obd_go (t_Chain_sort hs _ _ _ hw hx8).1 ?_
                    replace h := jgd_of h; obtain ⟨hb, h⟩ := h; refine jgd_go (c_job hb) ?_
                    replace h := obd_of h; obtain ⟨x9, hx9, h⟩ := h; refine obd_go (t_B_numbersOf hs _ _ _ _ hw hx9).1 ?_
                    replace h := jon_or h; rcases h with ⟨rfl, h⟩ | ⟨a10, rfl, h⟩
                    · refine jon_goN ?_
                      obtain ⟨rfl, rfl⟩ := Prod.mk.inj (Option.some.inj h); exact ⟨rfl, hw⟩
                    · refine jon_goS ?_
                      replace h := obd_of h; obtain ⟨x11, hx11, h⟩ := h
                      refine obd_go (y := x11) ?_ ?_
                      · rcases ite_or hx11 with ⟨hb, hx⟩ | ⟨hb0, hx⟩
                        · rw [if_pos (c_job hb)]; exact (t_Real_holds hs _ _ _ _ hw hx).1
                        · obtain ⟨hb, hx⟩ := jgd_of hx; rw [if_neg (c_job_ne hb (by decide)), c_job hb]; exact hx
                      replace h := ite_or h; rcases h with ⟨hc, h⟩ | ⟨hc, h⟩
                      · refine ite_goT hc ?_
                        replace h := cnew_of h; refine jnew_go hw (by decide) ?_; replace hw := cw_new (ci := 4) hw (by decide)
                        replace h := obd_of h; obtain ⟨x14, hx14, h⟩ := h
                        refine obd_go (y := x14) ?_ ?_
                        · rcases ite_or hx14 with ⟨hb, hx⟩ | ⟨hb0, hx⟩
                          · rw [if_pos (c_job hb)]; exact (t_Real_clean hs _ _ _ _ hw hx).1
                          · obtain ⟨hb, hx⟩ := jgd_of hx; rw [if_neg (c_job_ne hb (by decide)), c_job hb]; exact hx
                        replace h := obd_of h; obtain ⟨C15, hC15, h⟩ := h; have hq := (t_Loop_init hs _ _ _ _ _ _ _ hw hC15); refine obd_go hq.1 ?_; replace hw := hq.2
                        replace h := jgd_of h; obtain ⟨hb, h⟩ := h; refine jgd_go (c_job hb) ?_
                        replace h := obd_of h; obtain ⟨C16, hC16, h⟩ := h; have hq := (t_Chain_tie hs _ _ _ _ hw hC16); refine obd_go hq.1 ?_; replace hw := hq.2
                        replace h := obd_of h; obtain ⟨x17, hx17, h⟩ := h
                        refine obd_go (cg_I rfl hx17) ?_
                        obtain ⟨rfl, rfl⟩ := Prod.mk.inj (Option.some.inj h); exact ⟨rfl, hw⟩
                      · refine ite_goF hc ?_
                        obtain ⟨rfl, rfl⟩ := Prod.mk.inj (Option.some.inj h); exact ⟨rfl, hw⟩
      · refine ite_goF hc ?_
        obtain ⟨rfl, rfl⟩ := Prod.mk.inj (Option.some.inj h); exact ⟨rfl, hw⟩
    · refine jon_goS ?_
      obtain ⟨rfl, rfl⟩ := Prod.mk.inj (Option.some.inj h); exact ⟨rfl, hw⟩
set_option maxRecDepth 10000 in
set_option maxHeartbeats 4000000 in
theorem t_B_chain_2 {B : Nat} {SA : Nat → Nat} {h0 : Nat → Option JCell} (hs : CS B SA h0) : ∀ (v0 : Nat) (v1 : Int32) (v2 : Int32) (C : CT) (r : Int32), CW B C → c_B_chain_2 v0 v1 v2 C = some r → g_B_chain_2 v0 v1 v2 (ovC C h0) = some r ∧ True := by
  intro v0 v1 v2 C r hw h
  unfold c_B_chain_2 at h
  unfold g_B_chain_2
  replace h := jgd_of h; obtain ⟨hb, h⟩ := h; refine jgd_go (c_job hb) ?_
  replace h := obd_of h; obtain ⟨x1, hx1, h⟩ := h; refine obd_go (t_B_chainAt hs _ _ _ _ hw hx1).1 ?_
  replace h := jon_or h; rcases h with ⟨rfl, h⟩ | ⟨a2, rfl, h⟩
  · refine jon_goN ?_
    obtain rfl := Option.some.inj h; exact ⟨rfl, trivial⟩
  · refine jon_goS ?_
    replace h := ite_or h; rcases h with ⟨hc, h⟩ | ⟨hc, h⟩
    · refine ite_goT hc ?_
      replace h := obd_of h; obtain ⟨x3, hx3, h⟩ := h
      refine obd_go (cg_I rfl hx3) ?_
      obtain rfl := Option.some.inj h; exact ⟨rfl, trivial⟩
    · refine ite_goF hc ?_
      replace h := ite_or h; rcases h with ⟨hc, h⟩ | ⟨hc, h⟩
      · refine ite_goT hc ?_
        replace h := obd_of h; obtain ⟨x4, hx4, h⟩ := h
        refine obd_go (cg_I rfl hx4) ?_
        obtain rfl := Option.some.inj h; exact ⟨rfl, trivial⟩
      · refine ite_goF hc ?_
        replace h := ite_or h; rcases h with ⟨hc, h⟩ | ⟨hc, h⟩
        · refine ite_goT hc ?_
          replace h := obd_of h; obtain ⟨x5, hx5, h⟩ := h
          refine obd_go (cg_I rfl hx5) ?_
          obtain rfl := Option.some.inj h; exact ⟨rfl, trivial⟩
        · refine ite_goF hc ?_
          replace h := ite_or h; rcases h with ⟨hc, h⟩ | ⟨hc, h⟩
          · refine ite_goT hc ?_
            replace h := obd_of h; obtain ⟨x6, hx6, h⟩ := h
            refine obd_go (cg_A rfl hx6) ?_
            replace h := jon_or h; rcases h with ⟨rfl, h⟩ | ⟨a7, rfl, h⟩
            · refine jon_goN ?_
              obtain rfl := Option.some.inj h; exact ⟨rfl, trivial⟩
            · refine jon_goS ?_
              replace h := obd_of h; obtain ⟨x8, hx8, h⟩ := h
              refine obd_go (cg_A rfl hx8) ?_
              replace h := obd_of h; obtain ⟨a9, rfl, h⟩ := h; refine obd_go rfl ?_
              replace h := obd_of h; obtain ⟨x10, hx10, h⟩ := h
              refine obd_go (cg_I rfl hx10) ?_
              obtain rfl := Option.some.inj h; exact ⟨rfl, trivial⟩
          · refine ite_goF hc ?_
            replace h := ite_or h; rcases h with ⟨hc, h⟩ | ⟨hc, h⟩
            · refine ite_goT hc ?_
              replace h := jgd_of h; obtain ⟨hb, h⟩ := h; refine jgd_go (c_job hb) ?_
              replace h := obd_of h; obtain ⟨x11, hx11, h⟩ := h; refine obd_go (t_Chain_sort hs _ _ _ hw hx11).1 ?_
              obtain rfl := Option.some.inj h; exact ⟨rfl, trivial⟩
            · refine ite_goF hc ?_
              obtain rfl := Option.some.inj h; exact ⟨rfl, trivial⟩
set_option maxRecDepth 10000 in
set_option maxHeartbeats 4000000 in
theorem t_B_count {B : Nat} {SA : Nat → Nat} {h0 : Nat → Option JCell} (hs : CS B SA h0) : ∀ (v0 : Nat) (v1 : Int32) (C : CT) (r : Int32), CW B C → c_B_count v0 v1 C = some r → g_B_count v0 v1 (ovC C h0) = some r ∧ True := by
  intro v0 v1 C r hw h
  unfold c_B_count at h
  unfold g_B_count
  replace h := ite_or h; rcases h with ⟨hc, h⟩ | ⟨hc, h⟩
  · refine ite_goT hc ?_
    replace h := obd_of h; obtain ⟨x1, hx1, h⟩ := h
    refine obd_go (cg_I rfl hx1) ?_
    obtain rfl := Option.some.inj h; exact ⟨rfl, trivial⟩
  · refine ite_goF hc ?_
    replace h := ite_or h; rcases h with ⟨hc, h⟩ | ⟨hc, h⟩
    · refine ite_goT hc ?_
      replace h := obd_of h; obtain ⟨x2, hx2, h⟩ := h
      refine obd_go (cg_I rfl hx2) ?_
      obtain rfl := Option.some.inj h; exact ⟨rfl, trivial⟩
    · refine ite_goF hc ?_
      replace h := ite_or h; rcases h with ⟨hc, h⟩ | ⟨hc, h⟩
      · refine ite_goT hc ?_
        replace h := obd_of h; obtain ⟨x3, hx3, h⟩ := h
        refine obd_go (cg_I rfl hx3) ?_
        obtain rfl := Option.some.inj h; exact ⟨rfl, trivial⟩
      · refine ite_goF hc ?_
        obtain rfl := Option.some.inj h; exact ⟨rfl, trivial⟩
set_option maxRecDepth 10000 in
set_option maxHeartbeats 4000000 in
theorem t_B_fedAlone_24 {B : Nat} {SA : Nat → Nat} {h0 : Nat → Option JCell} (hs : CS B SA h0) : ∀ (C : CT) (r : Option Nat), CW B C → c_B_fedAlone_24 C = some r → g_B_fedAlone_24 (ovC C h0) = some r ∧ True := by
  intro C r hw h
  unfold c_B_fedAlone_24 at h
  unfold g_B_fedAlone_24
  obtain rfl := Option.some.inj h; exact ⟨rfl, trivial⟩
set_option maxRecDepth 10000 in
set_option maxHeartbeats 4000000 in
theorem t_B_fedAlone {B : Nat} {SA : Nat → Nat} {h0 : Nat → Option JCell} (hs : CS B SA h0) : ∀ (v0 : Nat) (v1 : Int32) (C : CT) (r : Option Nat), CW B C → c_B_fedAlone v0 v1 C = some r → g_B_fedAlone v0 v1 (ovC C h0) = some r ∧ True := by
  intro v0 v1 C r hw h
  unfold c_B_fedAlone at h
  unfold g_B_fedAlone
  replace h := jgd_of h; obtain ⟨hb, h⟩ := h; refine jgd_go (c_job hb) ?_
  replace h := obd_of h; obtain ⟨x1, hx1, h⟩ := h; refine obd_go (t_B_chainAt hs _ _ _ _ hw hx1).1 ?_
  replace h := jon_or h; rcases h with ⟨rfl, h⟩ | ⟨a2, rfl, h⟩
  · refine jon_goN ?_
    exact t_B_fedAlone_24 hs  _ _ hw h
  · refine jon_goS ?_
    replace h := obd_of h; obtain ⟨x3, hx3, h⟩ := h
    refine obd_go (cg_I rfl hx3) ?_
    replace h := ite_or h; rcases h with ⟨hc, h⟩ | ⟨hc, h⟩
    · refine ite_goT hc ?_
      exact t_B_fedAlone_24 hs  _ _ hw h
    · refine ite_goF hc ?_
      replace h := obd_of h; obtain ⟨x4, hx4, h⟩ := h
      refine obd_go (cg_A rfl hx4) ?_
      replace h := jon_or h; rcases h with ⟨rfl, h⟩ | ⟨a5, rfl, h⟩
      · refine jon_goN ?_
        obtain rfl := Option.some.inj h; exact ⟨rfl, trivial⟩
      · refine jon_goS ?_
        exact t_B_fedAlone_24 hs  _ _ hw h
set_option maxRecDepth 10000 in
set_option maxHeartbeats 4000000 in
theorem t_Chain_emit_84 {B : Nat} {SA : Nat → Nat} {h0 : Nat → Option JCell} (hs : CS B SA h0) : ∀ (v0 : Nat) (s0 : Int32) (s1 : Nat) (C C9 : CT), CW B C → c_Chain_emit_84 v0 s0 s1 C = some C9 → g_Chain_emit_84 B v0 s0 s1 (ovC C h0, ck C) = some (ovC C9 h0, ck C9) ∧ CW B C9 := by
  intro v0 s0 s1 C C9 hw h
  unfold c_Chain_emit_84 at h
  unfold g_Chain_emit_84
  replace h := obd_of h; obtain ⟨C1, hC1, h⟩ := h
  refine obd_go (cp_I rfl hw hC1).1 ?_; replace hw := (cp_I (h0 := h0) rfl hw hC1).2
  replace h := obd_of h; obtain ⟨x2, hx2, h⟩ := h
  refine obd_go (cg_I rfl hx2) ?_
  replace h := obd_of h; obtain ⟨C3, hC3, h⟩ := h
  refine obd_go (cp_I rfl hw hC3).1 ?_; replace hw := (cp_I (h0 := h0) rfl hw hC3).2
  obtain rfl := Option.some.inj h; exact ⟨rfl, hw⟩
set_option maxRecDepth 10000 in
set_option maxHeartbeats 4000000 in
theorem t_Chain_emit_55 {B : Nat} {SA : Nat → Nat} {h0 : Nat → Option JCell} (hs : CS B SA h0) : ∀ (v0 : Nat) (s0 : Int32) (s1 : Nat) (C C9 : CT), CW B C → c_Chain_emit_55 v0 s0 s1 C = some C9 → g_Chain_emit_55 B v0 s0 s1 (ovC C h0, ck C) = some (ovC C9 h0, ck C9) ∧ CW B C9 := by
  intro v0 s0 s1 C C9 hw h
  unfold c_Chain_emit_55 at h
  unfold g_Chain_emit_55
  replace h := obd_of h; obtain ⟨C1, hC1, h⟩ := h
  refine obd_go (cp_I rfl hw hC1).1 ?_; replace hw := (cp_I (h0 := h0) rfl hw hC1).2
  replace h := obd_of h; obtain ⟨x2, hx2, h⟩ := h
  refine obd_go (cg_I rfl hx2) ?_
  replace h := obd_of h; obtain ⟨x3, hx3, h⟩ := h
  refine obd_go (cg_A rfl hx3) ?_
  replace h := obd_of h; obtain ⟨a4, rfl, h⟩ := h; refine obd_go rfl ?_
  replace h := obd_of h; obtain ⟨x5, hx5, h⟩ := h
  refine obd_go (ca_len hx5) ?_
  replace h := ite_or h; rcases h with ⟨hc, h⟩ | ⟨hc, h⟩
  · refine ite_goT hc ?_
    replace h := obd_of h; obtain ⟨x6, hx6, h⟩ := h
    refine obd_go (cg_I rfl hx6) ?_
    exact t_Chain_emit_84 hs _ _ _ _ _ hw h
  · refine ite_goF hc ?_
    replace h := obd_of h; obtain ⟨x7, hx7, h⟩ := h
    refine obd_go (cg_I rfl hx7) ?_
    exact t_Chain_emit_84 hs _ _ _ _ _ hw h
set_option maxRecDepth 10000 in
set_option maxHeartbeats 4000000 in
theorem t_Chain_emit {B : Nat} {SA : Nat → Nat} {h0 : Nat → Option JCell} (hs : CS B SA h0) : ∀ (v0 : Nat) (v1 : Int64) (C C9 : CT), CW B C → c_Chain_emit v0 v1 C = some C9 → g_Chain_emit B v0 v1 (ovC C h0, ck C) = some (ovC C9 h0, ck C9) ∧ CW B C9 := by
  intro v0 v1 C C9 hw h
  unfold c_Chain_emit at h
  unfold g_Chain_emit
  replace h := obd_of h; obtain ⟨x1, hx1, h⟩ := h
  refine obd_go (cg_I rfl hx1) ?_
  replace h := ite_or h; rcases h with ⟨hc, h⟩ | ⟨hc, h⟩
  · refine ite_goT hc ?_
    obtain rfl := Option.some.inj h; exact ⟨rfl, hw⟩
  · refine ite_goF hc ?_
    replace h := obd_of h; obtain ⟨x2, hx2, h⟩ := h
    refine obd_go (cg_I rfl hx2) ?_
    replace h := obd_of h; obtain ⟨x3, hx3, h⟩ := h
    refine obd_go (cg_A rfl hx3) ?_
    replace h := obd_of h; obtain ⟨a4, rfl, h⟩ := h; refine obd_go rfl ?_
    replace h := obd_of h; obtain ⟨x5, hx5, h⟩ := h
    refine obd_go (ca_len hx5) ?_
    replace h := ite_or h; rcases h with ⟨hc, h⟩ | ⟨hc, h⟩
    · refine ite_goT hc ?_
      replace h := obd_of h; obtain ⟨x6, hx6, h⟩ := h
      refine obd_go (cg_A rfl hx6) ?_
      replace h := obd_of h; obtain ⟨x7, hx7, h⟩ := h
      refine obd_go (cg_I rfl hx7) ?_
      replace h := obd_of h; obtain ⟨a8, rfl, h⟩ := h; refine obd_go rfl ?_
      replace h := obd_of h; obtain ⟨C9, hC9, h⟩ := h
      refine obd_go (cq_J hw hC9).1 ?_; replace hw := (cq_J (h0 := h0) hw hC9).2
      replace h := obd_of h; obtain ⟨x10, hx10, h⟩ := h
      refine obd_go (cg_I rfl hx10) ?_
      replace h := obd_of h; obtain ⟨x11, hx11, h⟩ := h
      refine obd_go (cg_A rfl hx11) ?_
      replace h := obd_of h; obtain ⟨a12, rfl, h⟩ := h; refine obd_go rfl ?_
      replace h := obd_of h; obtain ⟨x13, hx13, h⟩ := h
      refine obd_go (ca_len hx13) ?_
      replace h := ite_or h; rcases h with ⟨hc, h⟩ | ⟨hc, h⟩
      · refine ite_goT hc ?_
        replace h := obd_of h; obtain ⟨x14, hx14, h⟩ := h
        refine obd_go (cg_I rfl hx14) ?_
        exact t_Chain_emit_55 hs _ _ _ _ _ hw h
      · refine ite_goF hc ?_
        exact t_Chain_emit_55 hs _ _ _ _ _ hw h
    · refine ite_goF hc ?_
      obtain rfl := Option.some.inj h; exact ⟨rfl, hw⟩
set_option maxRecDepth 10000 in
set_option maxHeartbeats 4000000 in
theorem t_Chain_loopAt_21 {B : Nat} {SA : Nat → Nat} {h0 : Nat → Option JCell} (hs : CS B SA h0) : ∀ (C : CT) (r : Option Nat), CW B C → c_Chain_loopAt_21 C = some r → g_Chain_loopAt_21 (ovC C h0) = some r ∧ True := by
  intro C r hw h
  unfold c_Chain_loopAt_21 at h
  unfold g_Chain_loopAt_21
  obtain rfl := Option.some.inj h; exact ⟨rfl, trivial⟩
set_option maxRecDepth 10000 in
set_option maxHeartbeats 4000000 in
theorem t_Chain_loopAt {B : Nat} {SA : Nat → Nat} {h0 : Nat → Option JCell} (hs : CS B SA h0) : ∀ (v0 : Nat) (v1 : Int32) (C : CT) (r : Option Nat), CW B C → c_Chain_loopAt v0 v1 C = some r → g_Chain_loopAt v0 v1 (ovC C h0) = some r ∧ True := by
  intro v0 v1 C r hw h
  unfold c_Chain_loopAt at h
  unfold g_Chain_loopAt
  replace h := ite_or h; rcases h with ⟨hc, h⟩ | ⟨hc, h⟩
  · refine ite_goT hc ?_
    exact t_Chain_loopAt_21 hs  _ _ hw h
  · refine ite_goF hc ?_
    replace h := obd_of h; obtain ⟨x1, hx1, h⟩ := h
    refine obd_go (cg_I rfl hx1) ?_
    replace h := ite_or h; rcases h with ⟨hc, h⟩ | ⟨hc, h⟩
    · refine ite_goT hc ?_
      exact t_Chain_loopAt_21 hs  _ _ hw h
    · refine ite_goF hc ?_
      replace h := obd_of h; obtain ⟨x2, hx2, h⟩ := h
      refine obd_go (cg_A rfl hx2) ?_
      replace h := obd_of h; obtain ⟨a3, rfl, h⟩ := h; refine obd_go rfl ?_
      replace h := obd_of h; obtain ⟨x4, hx4, h⟩ := h
      refine obd_go (ca_len hx4) ?_
      replace h := ite_or h; rcases h with ⟨hc, h⟩ | ⟨hc, h⟩
      · refine ite_goT hc ?_
        replace h := obd_of h; obtain ⟨x5, hx5, h⟩ := h
        refine obd_go (cg_A rfl hx5) ?_
        replace h := obd_of h; obtain ⟨a6, rfl, h⟩ := h; refine obd_go rfl ?_
        replace h := obd_of h; obtain ⟨x7, hx7, h⟩ := h
        refine obd_go (ca_A hx7) ?_
        obtain rfl := Option.some.inj h; exact ⟨rfl, trivial⟩
      · refine ite_goF hc ?_
        exact t_Chain_loopAt_21 hs  _ _ hw h
set_option maxRecDepth 10000 in
set_option maxHeartbeats 4000000 in
theorem t_Real_exponent_17 {B : Nat} {SA : Nat → Nat} {h0 : Nat → Option JCell} (hs : CS B SA h0) : ∀ (v0 : Nat) (s0 : Int32) (C : CT) (r : Int32), CW B C → c_Real_exponent_17 v0 s0 C = some r → g_Real_exponent_17 v0 s0 (ovC C h0) = some r ∧ True := by
  intro v0 s0 C r hw h
  unfold c_Real_exponent_17 at h
  unfold g_Real_exponent_17
  replace h := obd_of h; obtain ⟨x1, hx1, h⟩ := h
  refine obd_go (cg_I rfl hx1) ?_
  replace h := obd_of h; obtain ⟨x2, hx2, h⟩ := h
  refine obd_go (cg_I rfl hx2) ?_
  obtain rfl := Option.some.inj h; exact ⟨rfl, trivial⟩
set_option maxRecDepth 10000 in
set_option maxHeartbeats 4000000 in
theorem t_Real_exponent {B : Nat} {SA : Nat → Nat} {h0 : Nat → Option JCell} (hs : CS B SA h0) : ∀ (v0 : Nat) (v1 : Int64) (C : CT) (r : Int32), CW B C → c_Real_exponent v0 v1 C = some r → g_Real_exponent v0 v1 (ovC C h0) = some r ∧ True := by
  intro v0 v1 C r hw h
  unfold c_Real_exponent at h
  unfold g_Real_exponent
  replace h := obd_of h; obtain ⟨x1, hx1, h⟩ := h
  refine obd_go (cg_I rfl hx1) ?_
  replace h := jlet_of h; refine jlet_go ?_
  replace h := ite_or h; rcases h with ⟨hc, h⟩ | ⟨hc, h⟩
  · refine ite_goT hc ?_
    exact t_Real_exponent_17 hs _ _ _ _ hw h
  · refine ite_goF hc ?_
    exact t_Real_exponent_17 hs _ _ _ _ hw h
set_option maxRecDepth 10000 in
set_option maxHeartbeats 4000000 in
theorem t_Real_mantissa {B : Nat} {SA : Nat → Nat} {h0 : Nat → Option JCell} (hs : CS B SA h0) : ∀ (v0 : Nat) (v1 : Int64) (C : CT) (r : Int64), CW B C → c_Real_mantissa v0 v1 C = some r → g_Real_mantissa v0 v1 (ovC C h0) = some r ∧ True := by
  intro v0 v1 C r hw h
  unfold c_Real_mantissa at h
  unfold g_Real_mantissa
  replace h := obd_of h; obtain ⟨x1, hx1, h⟩ := h
  refine obd_go (cg_J rfl hx1) ?_
  replace h := ite_or h; rcases h with ⟨hc, h⟩ | ⟨hc, h⟩
  · refine ite_goT hc ?_
    replace h := obd_of h; obtain ⟨x2, hx2, h⟩ := h
    refine obd_go (cg_J rfl hx2) ?_
    replace h := obd_of h; obtain ⟨x3, hx3, h⟩ := h
    refine obd_go (cg_J rfl hx3) ?_
    obtain rfl := Option.some.inj h; exact ⟨rfl, trivial⟩
  · refine ite_goF hc ?_
    obtain rfl := Option.some.inj h; exact ⟨rfl, trivial⟩
set_option maxRecDepth 10000 in
set_option maxHeartbeats 4000000 in
theorem t_Real_signed {B : Nat} {SA : Nat → Nat} {h0 : Nat → Option JCell} (hs : CS B SA h0) : ∀ (v0 : Nat) (v1 : Bool) (v2 : Int64) (C : CT) (r : Int64), CW B C → c_Real_signed v0 v1 v2 C = some r → g_Real_signed v0 v1 v2 (ovC C h0) = some r ∧ True := by
  intro v0 v1 v2 C r hw h
  unfold c_Real_signed at h
  unfold g_Real_signed
  replace h := ite_or h; rcases h with ⟨hc, h⟩ | ⟨hc, h⟩
  · refine ite_goT hc ?_
    replace h := obd_of h; obtain ⟨x1, hx1, h⟩ := h
    refine obd_go (cg_J rfl hx1) ?_
    obtain rfl := Option.some.inj h; exact ⟨rfl, trivial⟩
  · refine ite_goF hc ?_
    obtain rfl := Option.some.inj h; exact ⟨rfl, trivial⟩
set_option maxRecDepth 10000 in
set_option maxHeartbeats 4000000 in
theorem t_Real_packed_66 {B : Nat} {SA : Nat → Nat} {h0 : Nat → Option JCell} (hs : CS B SA h0) : ∀ (v0 : Nat) (v1 : Bool) (v3 : Int64) (v5 : Int32) (v6 : Int32) (v7 : Int32) (C : CT) (r : Int64), CW B C → c_Real_packed_66 v0 v1 v3 v5 v6 v7 C = some r → g_Real_packed_66 v0 v1 v3 v5 v6 v7 (ovC C h0) = some r ∧ True := by
  intro v0 v1 v3 v5 v6 v7 C r hw h
  unfold c_Real_packed_66 at h
  unfold g_Real_packed_66
  replace h := obd_of h; obtain ⟨x1, hx1, h⟩ := h
  refine obd_go (cg_I rfl hx1) ?_
  replace h := jlet_of h; refine jlet_go ?_
  replace h := jgd_of h; obtain ⟨hb, h⟩ := h; refine jgd_go (c_job hb) ?_
  replace h := obd_of h; obtain ⟨x3, hx3, h⟩ := h; refine obd_go (t_Real_signed hs _ _ _ _ _ hw hx3).1 ?_
  obtain rfl := Option.some.inj h; exact ⟨rfl, trivial⟩
set_option maxRecDepth 10000 in
set_option maxHeartbeats 4000000 in
theorem t_Real_packed {B : Nat} {SA : Nat → Nat} {h0 : Nat → Option JCell} (hs : CS B SA h0) : ∀ (v0 : Nat) (v1 : Bool) (v2 : Int32) (v3 : Int64) (C : CT) (r : Int64), CW B C → c_Real_packed v0 v1 v2 v3 C = some r → g_Real_packed v0 v1 v2 v3 (ovC C h0) = some r ∧ True := by
  intro v0 v1 v2 v3 C r hw h
  unfold c_Real_packed at h
  unfold g_Real_packed
  replace h := obd_of h; obtain ⟨x1, hx1, h⟩ := h
  refine obd_go (cg_I rfl hx1) ?_
  replace h := jlet_of h; refine jlet_go ?_
  replace h := obd_of h; obtain ⟨x3, hx3, h⟩ := h
  refine obd_go (cg_I rfl hx3) ?_
  replace h := ite_or h; rcases h with ⟨hc, h⟩ | ⟨hc, h⟩
  · refine ite_goT hc ?_
    replace h := obd_of h; obtain ⟨x4, hx4, h⟩ := h
    refine obd_go (cg_I rfl hx4) ?_
    replace h := ite_or h; rcases h with ⟨hc, h⟩ | ⟨hc, h⟩
    · refine ite_goT hc ?_
      exact t_Real_packed_66 hs _ _ _ _ _ _ _ _ hw h
    · refine ite_goF hc ?_
      replace h := jlet_of h; refine jlet_go ?_
      exact t_Real_packed_66 hs _ _ _ _ _ _ _ _ hw h
  · refine ite_goF hc ?_
    replace h := obd_of h; obtain ⟨x6, hx6, h⟩ := h
    refine obd_go (cg_J rfl hx6) ?_
    replace h := jgd_of h; obtain ⟨hb, h⟩ := h; refine jgd_go (c_job hb) ?_
    replace h := obd_of h; obtain ⟨x7, hx7, h⟩ := h; refine obd_go (t_Real_signed hs _ _ _ _ _ hw hx7).1 ?_
    obtain rfl := Option.some.inj h; exact ⟨rfl, trivial⟩
set_option maxRecDepth 10000 in
set_option maxHeartbeats 4000000 in
theorem t_Real_added_62 {B : Nat} {SA : Nat → Nat} {h0 : Nat → Option JCell} (hs : CS B SA h0) : ∀ (v0 : Nat) (v1 : Bool) (v7 : Int32) (s0 : Int64) (C : CT) (r : Int64), CW B C → c_Real_added_62 v0 v1 v7 s0 C = some r → g_Real_added_62 v0 v1 v7 s0 (ovC C h0) = some r ∧ True := by
  intro v0 v1 v7 s0 C r hw h
  unfold c_Real_added_62 at h
  unfold g_Real_added_62
  replace h := ite_or h; rcases h with ⟨hc, h⟩ | ⟨hc, h⟩
  · refine ite_goT hc ?_
    obtain rfl := Option.some.inj h; exact ⟨rfl, trivial⟩
  · refine ite_goF hc ?_
    replace h := jgd_of h; obtain ⟨hb, h⟩ := h; refine jgd_go (c_job hb) ?_
    replace h := obd_of h; obtain ⟨x1, hx1, h⟩ := h; refine obd_go (t_Real_packed hs _ _ _ _ _ _ hw hx1).1 ?_
    obtain rfl := Option.some.inj h; exact ⟨rfl, trivial⟩
set_option maxRecDepth 10000 in
set_option maxHeartbeats 4000000 in
theorem t_Real_added {B : Nat} {SA : Nat → Nat} {h0 : Nat → Option JCell} (hs : CS B SA h0) : ∀ (v0 : Nat) (v1 : Bool) (v2 : Int64) (v4 : Bool) (v5 : Int64) (C : CT) (r : Int64), CW B C → c_Real_added v0 v1 v2 v4 v5 C = some r → g_Real_added v0 v1 v2 v4 v5 (ovC C h0) = some r ∧ True := by
  intro v0 v1 v2 v4 v5 C r hw h
  unfold c_Real_added at h
  unfold g_Real_added
  replace h := jgd_of h; obtain ⟨hb, h⟩ := h; refine jgd_go (c_job hb) ?_
  replace h := obd_of h; obtain ⟨x1, hx1, h⟩ := h; refine obd_go (t_Real_exponent hs _ _ _ _ hw hx1).1 ?_
  replace h := jgd_of h; obtain ⟨hb, h⟩ := h; refine jgd_go (c_job hb) ?_
  replace h := obd_of h; obtain ⟨x2, hx2, h⟩ := h; refine obd_go (t_Real_exponent hs _ _ _ _ hw hx2).1 ?_
  replace h := jgd_of h; obtain ⟨hb, h⟩ := h; refine jgd_go (c_job hb) ?_
  replace h := obd_of h; obtain ⟨x3, hx3, h⟩ := h; refine obd_go (t_Real_mantissa hs _ _ _ _ hw hx3).1 ?_
  replace h := jlet_of h; refine jlet_go ?_
  replace h := jgd_of h; obtain ⟨hb, h⟩ := h; refine jgd_go (c_job hb) ?_
  replace h := obd_of h; obtain ⟨x5, hx5, h⟩ := h; refine obd_go (t_Real_mantissa hs _ _ _ _ hw hx5).1 ?_
  replace h := jlet_of h; refine jlet_go ?_
  replace h := ite_or h; rcases h with ⟨hc, h⟩ | ⟨hc, h⟩
  · refine ite_goT hc ?_
    exact t_Real_added_62 hs _ _ _ _ _ _ hw h
  · refine ite_goF hc ?_
    exact t_Real_added_62 hs _ _ _ _ _ _ hw h
set_option maxRecDepth 10000 in
set_option maxHeartbeats 4000000 in
theorem t_Real_sizeOf {B : Nat} {SA : Nat → Nat} {h0 : Nat → Option JCell} (hs : CS B SA h0) : ∀ (v0 : Nat) (v1 : Int64) (C : CT) (r : Int64), CW B C → c_Real_sizeOf v0 v1 C = some r → g_Real_sizeOf v0 v1 (ovC C h0) = some r ∧ True := by
  intro v0 v1 C r hw h
  unfold c_Real_sizeOf at h
  unfold g_Real_sizeOf
  replace h := obd_of h; obtain ⟨x1, hx1, h⟩ := h
  refine obd_go (cg_J rfl hx1) ?_
  obtain rfl := Option.some.inj h; exact ⟨rfl, trivial⟩
set_option maxRecDepth 10000 in
set_option maxHeartbeats 4000000 in
theorem t_Real_withInfinity_16 {B : Nat} {SA : Nat → Nat} {h0 : Nat → Option JCell} (hs : CS B SA h0) : ∀ (v0 : Nat) (C : CT) (r : Int64), CW B C → c_Real_withInfinity_16 v0 C = some r → g_Real_withInfinity_16 v0 (ovC C h0) = some r ∧ True := by
  intro v0 C r hw h
  unfold c_Real_withInfinity_16 at h
  unfold g_Real_withInfinity_16
  replace h := obd_of h; obtain ⟨x1, hx1, h⟩ := h
  refine obd_go (cg_J rfl hx1) ?_
  obtain rfl := Option.some.inj h; exact ⟨rfl, trivial⟩
set_option maxRecDepth 10000 in
set_option maxHeartbeats 4000000 in
theorem t_Real_withInfinity {B : Nat} {SA : Nat → Nat} {h0 : Nat → Option JCell} (hs : CS B SA h0) : ∀ (v0 : Nat) (v1 : Int64) (v3 : Int64) (C : CT) (r : Int64), CW B C → c_Real_withInfinity v0 v1 v3 C = some r → g_Real_withInfinity v0 v1 v3 (ovC C h0) = some r ∧ True := by
  intro v0 v1 v3 C r hw h
  unfold c_Real_withInfinity at h
  unfold g_Real_withInfinity
  replace h := jgd_of h; obtain ⟨hb, h⟩ := h; refine jgd_go (c_job hb) ?_
  replace h := obd_of h; obtain ⟨x1, hx1, h⟩ := h; refine obd_go (t_Real_isNumber hs _ _ _ _ hw hx1).1 ?_
  replace h := ite_or h; rcases h with ⟨hc, h⟩ | ⟨hc, h⟩
  · refine ite_goT hc ?_
    replace h := jgd_of h; obtain ⟨hb, h⟩ := h; refine jgd_go (c_job hb) ?_
    replace h := obd_of h; obtain ⟨x2, hx2, h⟩ := h; refine obd_go (t_Real_isNumber hs _ _ _ _ hw hx2).1 ?_
    replace h := ite_or h; rcases h with ⟨hc, h⟩ | ⟨hc, h⟩
    · refine ite_goT hc ?_
      replace h := jgd_of h; obtain ⟨hb, h⟩ := h; refine jgd_go (c_job hb) ?_
      replace h := obd_of h; obtain ⟨x3, hx3, h⟩ := h; refine obd_go (t_Real_sizeOf hs _ _ _ _ hw hx3).1 ?_
      replace h := obd_of h; obtain ⟨x4, hx4, h⟩ := h
      refine obd_go (cg_J rfl hx4) ?_
      replace h := ite_or h; rcases h with ⟨hc, h⟩ | ⟨hc, h⟩
      · refine ite_goT hc ?_
        replace h := jgd_of h; obtain ⟨hb, h⟩ := h; refine jgd_go (c_job hb) ?_
        replace h := obd_of h; obtain ⟨x5, hx5, h⟩ := h; refine obd_go (t_Real_sizeOf hs _ _ _ _ hw hx5).1 ?_
        replace h := obd_of h; obtain ⟨x6, hx6, h⟩ := h
        refine obd_go (cg_J rfl hx6) ?_
        replace h := ite_or h; rcases h with ⟨hc, h⟩ | ⟨hc, h⟩
        · refine ite_goT hc ?_
          replace h := ite_or h; rcases h with ⟨hc, h⟩ | ⟨hc, h⟩
          · refine ite_goT hc ?_
            obtain rfl := Option.some.inj h; exact ⟨rfl, trivial⟩
          · refine ite_goF hc ?_
            replace h := obd_of h; obtain ⟨x7, hx7, h⟩ := h
            refine obd_go (cg_J rfl hx7) ?_
            obtain rfl := Option.some.inj h; exact ⟨rfl, trivial⟩
        · refine ite_goF hc ?_
          obtain rfl := Option.some.inj h; exact ⟨rfl, trivial⟩
      · refine ite_goF hc ?_
        obtain rfl := Option.some.inj h; exact ⟨rfl, trivial⟩
    · refine ite_goF hc ?_
      exact t_Real_withInfinity_16 hs _ _ _ hw h
  · refine ite_goF hc ?_
    exact t_Real_withInfinity_16 hs _ _ _ hw h
set_option maxRecDepth 10000 in
set_option maxHeartbeats 4000000 in
theorem t_Real_plus_34 {B : Nat} {SA : Nat → Nat} {h0 : Nat → Option JCell} (hs : CS B SA h0) : ∀ (v0 : Nat) (v1 : Int64) (v3 : Int64) (C : CT) (r : Int64), CW B C → c_Real_plus_34 v0 v1 v3 C = some r → g_Real_plus_34 v0 v1 v3 (ovC C h0) = some r ∧ True := by
  intro v0 v1 v3 C r hw h
  unfold c_Real_plus_34 at h
  unfold g_Real_plus_34
  replace h := jgd_of h; obtain ⟨hb, h⟩ := h; refine jgd_go (c_job hb) ?_
  replace h := obd_of h; obtain ⟨x1, hx1, h⟩ := h; refine obd_go (t_Real_withInfinity hs _ _ _ _ _ hw hx1).1 ?_
  obtain rfl := Option.some.inj h; exact ⟨rfl, trivial⟩
set_option maxRecDepth 10000 in
set_option maxHeartbeats 4000000 in
theorem t_Real_plus_55 {B : Nat} {SA : Nat → Nat} {h0 : Nat → Option JCell} (hs : CS B SA h0) : ∀ (v1 : Int64) (v3 : Int64) (v5 : Int64) (v7 : Int64) (C : CT) (r : Int64), CW B C → c_Real_plus_55 v1 v3 v5 v7 C = some r → g_Real_plus_55 v1 v3 v5 v7 (ovC C h0) = some r ∧ True := by
  intro v1 v3 v5 v7 C r hw h
  unfold c_Real_plus_55 at h
  unfold g_Real_plus_55
  replace h := ite_or h; rcases h with ⟨hc, h⟩ | ⟨hc, h⟩
  · refine ite_goT hc ?_
    replace h := ite_or h; rcases h with ⟨hc, h⟩ | ⟨hc, h⟩
    · refine ite_goT hc ?_
      obtain rfl := Option.some.inj h; exact ⟨rfl, trivial⟩
    · refine ite_goF hc ?_
      obtain rfl := Option.some.inj h; exact ⟨rfl, trivial⟩
  · refine ite_goF hc ?_
    obtain rfl := Option.some.inj h; exact ⟨rfl, trivial⟩
set_option maxRecDepth 10000 in
set_option maxHeartbeats 4000000 in
theorem t_Real_plus_133 {B : Nat} {SA : Nat → Nat} {h0 : Nat → Option JCell} (hs : CS B SA h0) : ∀ (v7 : Int64) (s0 : Bool) (s1 : Int64) (s2 : Bool) (s3 : Nat) (C : CT) (r : Int64), CW B C → c_Real_plus_133 v7 s0 s1 s2 s3 C = some r → g_Real_plus_133 v7 s0 s1 s2 s3 (ovC C h0) = some r ∧ True := by
  intro v7 s0 s1 s2 s3 C r hw h
  unfold c_Real_plus_133 at h
  unfold g_Real_plus_133
  replace h := jgd_of h; obtain ⟨hb, h⟩ := h; refine jgd_go (c_job hb) ?_
  replace h := obd_of h; obtain ⟨x1, hx1, h⟩ := h; refine obd_go (t_Real_added hs _ _ _ _ _ _ _ hw hx1).1 ?_
  obtain rfl := Option.some.inj h; exact ⟨rfl, trivial⟩
set_option maxRecDepth 10000 in
set_option maxHeartbeats 4000000 in
theorem t_Real_plus_125 {B : Nat} {SA : Nat → Nat} {h0 : Nat → Option JCell} (hs : CS B SA h0) : ∀ (v7 : Int64) (s0 : Bool) (s1 : Bool) (s2 : Int64) (s3 : Bool) (s4 : Nat) (C : CT) (r : Int64), CW B C → c_Real_plus_125 v7 s0 s1 s2 s3 s4 C = some r → g_Real_plus_125 v7 s0 s1 s2 s3 s4 (ovC C h0) = some r ∧ True := by
  intro v7 s0 s1 s2 s3 s4 C r hw h
  unfold c_Real_plus_125 at h
  unfold g_Real_plus_125
  replace h := ite_or h; rcases h with ⟨hc, h⟩ | ⟨hc, h⟩
  · refine ite_goT hc ?_
    exact t_Real_plus_133 hs _ _ _ _ _ _ _ hw h
  · refine ite_goF hc ?_
    exact t_Real_plus_133 hs _ _ _ _ _ _ _ hw h
set_option maxRecDepth 10000 in
set_option maxHeartbeats 4000000 in
theorem t_Real_plus_114 {B : Nat} {SA : Nat → Nat} {h0 : Nat → Option JCell} (hs : CS B SA h0) : ∀ (v3 : Int64) (v7 : Int64) (s0 : Bool) (s1 : Int64) (s2 : Bool) (s3 : Nat) (C : CT) (r : Int64), CW B C → c_Real_plus_114 v3 v7 s0 s1 s2 s3 C = some r → g_Real_plus_114 v3 v7 s0 s1 s2 s3 (ovC C h0) = some r ∧ True := by
  intro v3 v7 s0 s1 s2 s3 C r hw h
  unfold c_Real_plus_114 at h
  unfold g_Real_plus_114
  replace h := ite_or h; rcases h with ⟨hc, h⟩ | ⟨hc, h⟩
  · refine ite_goT hc ?_
    exact t_Real_plus_125 hs _ _ _ _ _ _ _ _ hw h
  · refine ite_goF hc ?_
    exact t_Real_plus_125 hs _ _ _ _ _ _ _ _ hw h
set_option maxRecDepth 10000 in
set_option maxHeartbeats 4000000 in
theorem t_Real_plus_101 {B : Nat} {SA : Nat → Nat} {h0 : Nat → Option JCell} (hs : CS B SA h0) : ∀ (v1 : Int64) (v3 : Int64) (v5 : Int64) (v7 : Int64) (s0 : Bool) (s1 : Nat) (C : CT) (r : Int64), CW B C → c_Real_plus_101 v1 v3 v5 v7 s0 s1 C = some r → g_Real_plus_101 v1 v3 v5 v7 s0 s1 (ovC C h0) = some r ∧ True := by
  intro v1 v3 v5 v7 s0 s1 C r hw h
  unfold c_Real_plus_101 at h
  unfold g_Real_plus_101
  replace h := ite_or h; rcases h with ⟨hc, h⟩ | ⟨hc, h⟩
  · refine ite_goT hc ?_
    exact t_Real_plus_114 hs _ _ _ _ _ _ _ _ hw h
  · refine ite_goF hc ?_
    exact t_Real_plus_114 hs _ _ _ _ _ _ _ _ hw h
set_option maxRecDepth 10000 in
set_option maxHeartbeats 4000000 in
theorem t_Real_plus_185 {B : Nat} {SA : Nat → Nat} {h0 : Nat → Option JCell} (hs : CS B SA h0) : ∀ (v5 : Int64) (s0 : Bool) (s1 : Int64) (s2 : Bool) (s3 : Nat) (C : CT) (r : Int64), CW B C → c_Real_plus_185 v5 s0 s1 s2 s3 C = some r → g_Real_plus_185 v5 s0 s1 s2 s3 (ovC C h0) = some r ∧ True := by
  intro v5 s0 s1 s2 s3 C r hw h
  unfold c_Real_plus_185 at h
  unfold g_Real_plus_185
  replace h := jgd_of h; obtain ⟨hb, h⟩ := h; refine jgd_go (c_job hb) ?_
  replace h := obd_of h; obtain ⟨x1, hx1, h⟩ := h; refine obd_go (t_Real_added hs _ _ _ _ _ _ _ hw hx1).1 ?_
  obtain rfl := Option.some.inj h; exact ⟨rfl, trivial⟩
set_option maxRecDepth 10000 in
set_option maxHeartbeats 4000000 in
theorem t_Real_plus_177 {B : Nat} {SA : Nat → Nat} {h0 : Nat → Option JCell} (hs : CS B SA h0) : ∀ (v5 : Int64) (s0 : Bool) (s1 : Bool) (s2 : Int64) (s3 : Bool) (s4 : Nat) (C : CT) (r : Int64), CW B C → c_Real_plus_177 v5 s0 s1 s2 s3 s4 C = some r → g_Real_plus_177 v5 s0 s1 s2 s3 s4 (ovC C h0) = some r ∧ True := by
  intro v5 s0 s1 s2 s3 s4 C r hw h
  unfold c_Real_plus_177 at h
  unfold g_Real_plus_177
  replace h := ite_or h; rcases h with ⟨hc, h⟩ | ⟨hc, h⟩
  · refine ite_goT hc ?_
    exact t_Real_plus_185 hs _ _ _ _ _ _ _ hw h
  · refine ite_goF hc ?_
    exact t_Real_plus_185 hs _ _ _ _ _ _ _ hw h
set_option maxRecDepth 10000 in
set_option maxHeartbeats 4000000 in
theorem t_Real_plus_166 {B : Nat} {SA : Nat → Nat} {h0 : Nat → Option JCell} (hs : CS B SA h0) : ∀ (v3 : Int64) (v5 : Int64) (s0 : Bool) (s1 : Int64) (s2 : Bool) (s3 : Nat) (C : CT) (r : Int64), CW B C → c_Real_plus_166 v3 v5 s0 s1 s2 s3 C = some r → g_Real_plus_166 v3 v5 s0 s1 s2 s3 (ovC C h0) = some r ∧ True := by
  intro v3 v5 s0 s1 s2 s3 C r hw h
  unfold c_Real_plus_166 at h
  unfold g_Real_plus_166
  replace h := ite_or h; rcases h with ⟨hc, h⟩ | ⟨hc, h⟩
  · refine ite_goT hc ?_
    exact t_Real_plus_177 hs _ _ _ _ _ _ _ _ hw h
  · refine ite_goF hc ?_
    exact t_Real_plus_177 hs _ _ _ _ _ _ _ _ hw h
set_option maxRecDepth 10000 in
set_option maxHeartbeats 4000000 in
theorem t_Real_plus_153 {B : Nat} {SA : Nat → Nat} {h0 : Nat → Option JCell} (hs : CS B SA h0) : ∀ (v1 : Int64) (v3 : Int64) (v5 : Int64) (v7 : Int64) (s0 : Bool) (s1 : Nat) (C : CT) (r : Int64), CW B C → c_Real_plus_153 v1 v3 v5 v7 s0 s1 C = some r → g_Real_plus_153 v1 v3 v5 v7 s0 s1 (ovC C h0) = some r ∧ True := by
  intro v1 v3 v5 v7 s0 s1 C r hw h
  unfold c_Real_plus_153 at h
  unfold g_Real_plus_153
  replace h := ite_or h; rcases h with ⟨hc, h⟩ | ⟨hc, h⟩
  · refine ite_goT hc ?_
    exact t_Real_plus_166 hs _ _ _ _ _ _ _ _ hw h
  · refine ite_goF hc ?_
    exact t_Real_plus_166 hs _ _ _ _ _ _ _ _ hw h
set_option maxRecDepth 10000 in
set_option maxHeartbeats 4000000 in
theorem t_Real_plus {B : Nat} {SA : Nat → Nat} {h0 : Nat → Option JCell} (hs : CS B SA h0) : ∀ (v0 : Nat) (v1 : Int64) (v3 : Int64) (C : CT) (r : Int64), CW B C → c_Real_plus v0 v1 v3 C = some r → g_Real_plus v0 v1 v3 (ovC C h0) = some r ∧ True := by
  intro v0 v1 v3 C r hw h
  unfold c_Real_plus at h
  unfold g_Real_plus
  replace h := jgd_of h; obtain ⟨hb, h⟩ := h; refine jgd_go (c_job hb) ?_
  replace h := obd_of h; obtain ⟨x1, hx1, h⟩ := h; refine obd_go (t_Real_sizeOf hs _ _ _ _ hw hx1).1 ?_
  replace h := jgd_of h; obtain ⟨hb, h⟩ := h; refine jgd_go (c_job hb) ?_
  replace h := obd_of h; obtain ⟨x2, hx2, h⟩ := h; refine obd_go (t_Real_sizeOf hs _ _ _ _ hw hx2).1 ?_
  replace h := obd_of h; obtain ⟨x3, hx3, h⟩ := h
  refine obd_go (cg_J rfl hx3) ?_
  replace h := ite_or h; rcases h with ⟨hc, h⟩ | ⟨hc, h⟩
  · refine ite_goT hc ?_
    exact t_Real_plus_34 hs _ _ _ _ _ hw h
  · refine ite_goF hc ?_
    replace h := obd_of h; obtain ⟨x4, hx4, h⟩ := h
    refine obd_go (cg_J rfl hx4) ?_
    replace h := ite_or h; rcases h with ⟨hc, h⟩ | ⟨hc, h⟩
    · refine ite_goT hc ?_
      replace h := ite_or h; rcases h with ⟨hc, h⟩ | ⟨hc, h⟩
      · refine ite_goT hc ?_
        exact t_Real_plus_55 hs _ _ _ _ _ _ hw h
      · refine ite_goF hc ?_
        replace h := ite_or h; rcases h with ⟨hc, h⟩ | ⟨hc, h⟩
        · refine ite_goT hc ?_
          exact t_Real_plus_55 hs _ _ _ _ _ _ hw h
        · refine ite_goF hc ?_
          replace h := ite_or h; rcases h with ⟨hc, h⟩ | ⟨hc, h⟩
          · refine ite_goT hc ?_
            replace h := ite_or h; rcases h with ⟨hc, h⟩ | ⟨hc, h⟩
            · refine ite_goT hc ?_
              exact t_Real_plus_153 hs _ _ _ _ _ _ _ _ hw h
            · refine ite_goF hc ?_
              exact t_Real_plus_153 hs _ _ _ _ _ _ _ _ hw h
          · refine ite_goF hc ?_
            replace h := ite_or h; rcases h with ⟨hc, h⟩ | ⟨hc, h⟩
            · refine ite_goT hc ?_
              exact t_Real_plus_101 hs _ _ _ _ _ _ _ _ hw h
            · refine ite_goF hc ?_
              exact t_Real_plus_101 hs _ _ _ _ _ _ _ _ hw h
    · refine ite_goF hc ?_
      exact t_Real_plus_34 hs _ _ _ _ _ hw h
set_option maxRecDepth 10000 in
set_option maxHeartbeats 4000000 in
theorem t_Real_product_100 {B : Nat} {SA : Nat → Nat} {h0 : Nat → Option JCell} (hs : CS B SA h0) : ∀ (v0 : Nat) (C : CT) (r : Int64), CW B C → c_Real_product_100 v0 C = some r → g_Real_product_100 v0 (ovC C h0) = some r ∧ True := by
  intro v0 C r hw h
  unfold c_Real_product_100 at h
  unfold g_Real_product_100
  replace h := obd_of h; obtain ⟨x1, hx1, h⟩ := h
  refine obd_go (cg_J rfl hx1) ?_
  obtain rfl := Option.some.inj h; exact ⟨rfl, trivial⟩
set_option maxRecDepth 10000 in
set_option maxHeartbeats 4000000 in
theorem t_Real_product_66 {B : Nat} {SA : Nat → Nat} {h0 : Nat → Option JCell} (hs : CS B SA h0) : ∀ (v0 : Nat) (v5 : Int64) (v7 : Int64) (v9 : Bool) (C : CT) (r : Int64), CW B C → c_Real_product_66 v0 v5 v7 v9 C = some r → g_Real_product_66 v0 v5 v7 v9 (ovC C h0) = some r ∧ True := by
  intro v0 v5 v7 v9 C r hw h
  unfold c_Real_product_66 at h
  unfold g_Real_product_66
  replace h := obd_of h; obtain ⟨x1, hx1, h⟩ := h
  refine obd_go (cg_J rfl hx1) ?_
  replace h := ite_or h; rcases h with ⟨hc, h⟩ | ⟨hc, h⟩
  · refine ite_goT hc ?_
    exact t_Real_product_100 hs _ _ _ hw h
  · refine ite_goF hc ?_
    replace h := obd_of h; obtain ⟨x2, hx2, h⟩ := h
    refine obd_go (cg_J rfl hx2) ?_
    replace h := ite_or h; rcases h with ⟨hc, h⟩ | ⟨hc, h⟩
    · refine ite_goT hc ?_
      exact t_Real_product_100 hs _ _ _ hw h
    · refine ite_goF hc ?_
      replace h := ite_or h; rcases h with ⟨hc, h⟩ | ⟨hc, h⟩
      · refine ite_goT hc ?_
        exact t_Real_product_100 hs _ _ _ hw h
      · refine ite_goF hc ?_
        replace h := ite_or h; rcases h with ⟨hc, h⟩ | ⟨hc, h⟩
        · refine ite_goT hc ?_
          exact t_Real_product_100 hs _ _ _ hw h
        · refine ite_goF hc ?_
          replace h := obd_of h; obtain ⟨x3, hx3, h⟩ := h
          refine obd_go (cg_J rfl hx3) ?_
          replace h := jgd_of h; obtain ⟨hb, h⟩ := h; refine jgd_go (c_job hb) ?_
          replace h := obd_of h; obtain ⟨x4, hx4, h⟩ := h; refine obd_go (t_Real_signed hs _ _ _ _ _ hw hx4).1 ?_
          obtain rfl := Option.some.inj h; exact ⟨rfl, trivial⟩
set_option maxRecDepth 10000 in
set_option maxHeartbeats 4000000 in
theorem t_Real_product_132 {B : Nat} {SA : Nat → Nat} {h0 : Nat → Option JCell} (hs : CS B SA h0) : ∀ (v0 : Nat) (v9 : Bool) (C : CT) (r : Int64), CW B C → c_Real_product_132 v0 v9 C = some r → g_Real_product_132 v0 v9 (ovC C h0) = some r ∧ True := by
  intro v0 v9 C r hw h
  unfold c_Real_product_132 at h
  unfold g_Real_product_132
  replace h := jgd_of h; obtain ⟨hb, h⟩ := h; refine jgd_go (c_job hb) ?_
  replace h := obd_of h; obtain ⟨x1, hx1, h⟩ := h; refine obd_go (t_Real_signed hs _ _ _ _ _ hw hx1).1 ?_
  obtain rfl := Option.some.inj h; exact ⟨rfl, trivial⟩
set_option maxRecDepth 10000 in
set_option maxHeartbeats 4000000 in
theorem t_Real_product_44 {B : Nat} {SA : Nat → Nat} {h0 : Nat → Option JCell} (hs : CS B SA h0) : ∀ (v0 : Nat) (v5 : Int64) (v7 : Int64) (s0 : Bool) (C : CT) (r : Int64), CW B C → c_Real_product_44 v0 v5 v7 s0 C = some r → g_Real_product_44 v0 v5 v7 s0 (ovC C h0) = some r ∧ True := by
  intro v0 v5 v7 s0 C r hw h
  unfold c_Real_product_44 at h
  unfold g_Real_product_44
  replace h := obd_of h; obtain ⟨x1, hx1, h⟩ := h
  refine obd_go (cg_J rfl hx1) ?_
  replace h := ite_or h; rcases h with ⟨hc, h⟩ | ⟨hc, h⟩
  · refine ite_goT hc ?_
    exact t_Real_product_66 hs _ _ _ _ _ _ hw h
  · refine ite_goF hc ?_
    replace h := obd_of h; obtain ⟨x2, hx2, h⟩ := h
    refine obd_go (cg_J rfl hx2) ?_
    replace h := ite_or h; rcases h with ⟨hc, h⟩ | ⟨hc, h⟩
    · refine ite_goT hc ?_
      replace h := ite_or h; rcases h with ⟨hc, h⟩ | ⟨hc, h⟩
      · refine ite_goT hc ?_
        exact t_Real_product_132 hs _ _ _ _ hw h
      · refine ite_goF hc ?_
        replace h := ite_or h; rcases h with ⟨hc, h⟩ | ⟨hc, h⟩
        · refine ite_goT hc ?_
          exact t_Real_product_132 hs _ _ _ _ hw h
        · refine ite_goF hc ?_
          replace h := jgd_of h; obtain ⟨hb, h⟩ := h; refine jgd_go (c_job hb) ?_
          replace h := obd_of h; obtain ⟨x3, hx3, h⟩ := h; refine obd_go (t_Real_mantissa hs _ _ _ _ hw hx3).1 ?_
          replace h := jgd_of h; obtain ⟨hb, h⟩ := h; refine jgd_go (c_job hb) ?_
          replace h := obd_of h; obtain ⟨x4, hx4, h⟩ := h; refine obd_go (t_Real_mantissa hs _ _ _ _ hw hx4).1 ?_
          replace h := jlet_of h; refine jlet_go ?_
          replace h := jlet_of h; refine jlet_go ?_
          replace h := jgd_of h; obtain ⟨hb, h⟩ := h; refine jgd_go (c_job hb) ?_
          replace h := obd_of h; obtain ⟨x7, hx7, h⟩ := h; refine obd_go (t_Real_exponent hs _ _ _ _ hw hx7).1 ?_
          replace h := jgd_of h; obtain ⟨hb, h⟩ := h; refine jgd_go (c_job hb) ?_
          replace h := obd_of h; obtain ⟨x8, hx8, h⟩ := h; refine obd_go (t_Real_exponent hs _ _ _ _ hw hx8).1 ?_
          replace h := jgd_of h; obtain ⟨hb, h⟩ := h; refine jgd_go (c_job hb) ?_
          replace h := obd_of h; obtain ⟨x9, hx9, h⟩ := h; refine obd_go (t_Real_packed hs _ _ _ _ _ _ hw hx9).1 ?_
          obtain rfl := Option.some.inj h; exact ⟨rfl, trivial⟩
    · refine ite_goF hc ?_
      exact t_Real_product_66 hs _ _ _ _ _ _ hw h
set_option maxRecDepth 10000 in
set_option maxHeartbeats 4000000 in
theorem t_Real_product_36 {B : Nat} {SA : Nat → Nat} {h0 : Nat → Option JCell} (hs : CS B SA h0) : ∀ (v0 : Nat) (v5 : Int64) (v7 : Int64) (s0 : Bool) (s1 : Bool) (C : CT) (r : Int64), CW B C → c_Real_product_36 v0 v5 v7 s0 s1 C = some r → g_Real_product_36 v0 v5 v7 s0 s1 (ovC C h0) = some r ∧ True := by
  intro v0 v5 v7 s0 s1 C r hw h
  unfold c_Real_product_36 at h
  unfold g_Real_product_36
  replace h := ite_or h; rcases h with ⟨hc, h⟩ | ⟨hc, h⟩
  · refine ite_goT hc ?_
    exact t_Real_product_44 hs _ _ _ _ _ _ hw h
  · refine ite_goF hc ?_
    exact t_Real_product_44 hs _ _ _ _ _ _ hw h
set_option maxRecDepth 10000 in
set_option maxHeartbeats 4000000 in
theorem t_Real_product_25 {B : Nat} {SA : Nat → Nat} {h0 : Nat → Option JCell} (hs : CS B SA h0) : ∀ (v0 : Nat) (v3 : Int64) (v5 : Int64) (v7 : Int64) (s0 : Bool) (C : CT) (r : Int64), CW B C → c_Real_product_25 v0 v3 v5 v7 s0 C = some r → g_Real_product_25 v0 v3 v5 v7 s0 (ovC C h0) = some r ∧ True := by
  intro v0 v3 v5 v7 s0 C r hw h
  unfold c_Real_product_25 at h
  unfold g_Real_product_25
  replace h := ite_or h; rcases h with ⟨hc, h⟩ | ⟨hc, h⟩
  · refine ite_goT hc ?_
    exact t_Real_product_36 hs _ _ _ _ _ _ _ hw h
  · refine ite_goF hc ?_
    exact t_Real_product_36 hs _ _ _ _ _ _ _ hw h
set_option maxRecDepth 10000 in
set_option maxHeartbeats 4000000 in
theorem t_Real_product {B : Nat} {SA : Nat → Nat} {h0 : Nat → Option JCell} (hs : CS B SA h0) : ∀ (v0 : Nat) (v1 : Int64) (v3 : Int64) (C : CT) (r : Int64), CW B C → c_Real_product v0 v1 v3 C = some r → g_Real_product v0 v1 v3 (ovC C h0) = some r ∧ True := by
  intro v0 v1 v3 C r hw h
  unfold c_Real_product at h
  unfold g_Real_product
  replace h := jgd_of h; obtain ⟨hb, h⟩ := h; refine jgd_go (c_job hb) ?_
  replace h := obd_of h; obtain ⟨x1, hx1, h⟩ := h; refine obd_go (t_Real_sizeOf hs _ _ _ _ hw hx1).1 ?_
  replace h := jgd_of h; obtain ⟨hb, h⟩ := h; refine jgd_go (c_job hb) ?_
  replace h := obd_of h; obtain ⟨x2, hx2, h⟩ := h; refine obd_go (t_Real_sizeOf hs _ _ _ _ hw hx2).1 ?_
  replace h := ite_or h; rcases h with ⟨hc, h⟩ | ⟨hc, h⟩
  · refine ite_goT hc ?_
    exact t_Real_product_25 hs _ _ _ _ _ _ _ hw h
  · refine ite_goF hc ?_
    exact t_Real_product_25 hs _ _ _ _ _ _ _ hw h
set_option maxRecDepth 10000 in
set_option maxHeartbeats 4000000 in
theorem t_Row_put {B : Nat} {SA : Nat → Nat} {h0 : Nat → Option JCell} (hs : CS B SA h0) : ∀ (v0 : Nat) (v1 : Int32) (v2 : Int64) (C C9 : CT), CW B C → c_Row_put v0 v1 v2 C = some C9 → g_Row_put B v0 v1 v2 (ovC C h0, ck C) = some (ovC C9 h0, ck C9) ∧ CW B C9 := by
  intro v0 v1 v2 C C9 hw h
  unfold c_Row_put at h
  unfold g_Row_put
  replace h := ite_or h; rcases h with ⟨hc, h⟩ | ⟨hc, h⟩
  · refine ite_goT hc ?_
    obtain rfl := Option.some.inj h; exact ⟨rfl, hw⟩
  · refine ite_goF hc ?_
    replace h := obd_of h; obtain ⟨x1, hx1, h⟩ := h
    refine obd_go (cg_A rfl hx1) ?_
    replace h := obd_of h; obtain ⟨a2, rfl, h⟩ := h; refine obd_go rfl ?_
    replace h := obd_of h; obtain ⟨x3, hx3, h⟩ := h
    refine obd_go (ca_len hx3) ?_
    replace h := ite_or h; rcases h with ⟨hc, h⟩ | ⟨hc, h⟩
    · refine ite_goT hc ?_
      obtain rfl := Option.some.inj h; exact ⟨rfl, hw⟩
    · refine ite_goF hc ?_
      replace h := obd_of h; obtain ⟨x4, hx4, h⟩ := h
      refine obd_go (cg_A rfl hx4) ?_
      replace h := jgd_of h; obtain ⟨hb, h⟩ := h; refine jgd_go (c_job hb) ?_
      replace h := obd_of h; obtain ⟨x5, hx5, h⟩ := h; refine obd_go (t_Row_index hs _ _ _ _ hw hx5).1 ?_
      replace h := obd_of h; obtain ⟨a6, rfl, h⟩ := h; refine obd_go rfl ?_
      replace h := obd_of h; obtain ⟨C7, hC7, h⟩ := h
      refine obd_go (cq_J hw hC7).1 ?_; replace hw := (cq_J (h0 := h0) hw hC7).2
      obtain rfl := Option.some.inj h; exact ⟨rfl, hw⟩
set_option maxRecDepth 10000 in
set_option maxHeartbeats 4000000 in
theorem t_Section_settled_67 {B : Nat} {SA : Nat → Nat} {h0 : Nat → Option JCell} (hs : CS B SA h0) : ∀ (v0 : Nat) (v5 : Int64) (C : CT) (r : Int64) (C9 : CT), CW B C → c_Section_settled_67 v0 v5 C = some (r, C9) → g_Section_settled_67 B v0 v5 (ovC C h0, ck C) = some (r, (ovC C9 h0, ck C9)) ∧ CW B C9 := by
  intro v0 v5 C r C9 hw h
  unfold c_Section_settled_67 at h
  unfold g_Section_settled_67
  replace h := ite_or h; rcases h with ⟨hc, h⟩ | ⟨hc, h⟩
  · refine ite_goT hc ?_
    obtain ⟨rfl, rfl⟩ := Prod.mk.inj (Option.some.inj h); exact ⟨rfl, hw⟩
  · refine ite_goF hc ?_
    replace h := obd_of h; obtain ⟨x1, hx1, h⟩ := h
    refine obd_go (cg_I rfl hx1) ?_
    replace h := obd_of h; obtain ⟨C2, hC2, h⟩ := h
    refine obd_go (cp_I rfl hw hC2).1 ?_; replace hw := (cp_I (h0 := h0) rfl hw hC2).2
    replace h := obd_of h; obtain ⟨x3, hx3, h⟩ := h
    refine obd_go (cg_I rfl hx3) ?_
    obtain ⟨rfl, rfl⟩ := Prod.mk.inj (Option.some.inj h); exact ⟨rfl, hw⟩
set_option maxRecDepth 10000 in
set_option maxHeartbeats 4000000 in
theorem t_Section_settled_32 {B : Nat} {SA : Nat → Nat} {h0 : Nat → Option JCell} (hs : CS B SA h0) : ∀ (v0 : Nat) (s0 : Int64) (C : CT) (r : Int64) (C9 : CT), CW B C → c_Section_settled_32 v0 s0 C = some (r, C9) → g_Section_settled_32 B v0 s0 (ovC C h0, ck C) = some (r, (ovC C9 h0, ck C9)) ∧ CW B C9 := by
  intro v0 s0 C r C9 hw h
  unfold c_Section_settled_32 at h
  unfold g_Section_settled_32
  replace h := obd_of h; obtain ⟨x1, hx1, h⟩ := h
  refine obd_go (cg_I rfl hx1) ?_
  replace h := obd_of h; obtain ⟨x2, hx2, h⟩ := h
  refine obd_go (cg_I rfl hx2) ?_
  replace h := ite_or h; rcases h with ⟨hc, h⟩ | ⟨hc, h⟩
  · refine ite_goT hc ?_
    replace h := obd_of h; obtain ⟨x3, hx3, h⟩ := h
    refine obd_go (cg_A rfl hx3) ?_
    replace h := obd_of h; obtain ⟨a4, rfl, h⟩ := h; refine obd_go rfl ?_
    replace h := jgd_of h; obtain ⟨hb, h⟩ := h; refine jgd_go (c_job hb) ?_
    replace h := obd_of h; obtain ⟨C5, hC5, h⟩ := h; have hq := (t_Row_put hs _ _ _ _ _ hw hC5); refine obd_go hq.1 ?_; replace hw := hq.2
    exact t_Section_settled_67 hs _ _ _ _ _ hw h
  · refine ite_goF hc ?_
    exact t_Section_settled_67 hs _ _ _ _ _ hw h
set_option maxRecDepth 10000 in
set_option maxHeartbeats 4000000 in
theorem t_Section_settled {B : Nat} {SA : Nat → Nat} {h0 : Nat → Option JCell} (hs : CS B SA h0) : ∀ (v0 : Nat) (v1 : Int64) (C : CT) (r : Int64) (C9 : CT), CW B C → c_Section_settled v0 v1 C = some (r, C9) → g_Section_settled B v0 v1 (ovC C h0, ck C) = some (r, (ovC C9 h0, ck C9)) ∧ CW B C9 := by
  intro v0 v1 C r C9 hw h
  unfold c_Section_settled at h
  unfold g_Section_settled
  replace h := obd_of h; obtain ⟨x1, hx1, h⟩ := h
  refine obd_go (cg_I rfl hx1) ?_
  replace h := ite_or h; rcases h with ⟨hc, h⟩ | ⟨hc, h⟩
  · refine ite_goT hc ?_
    replace h := obd_of h; obtain ⟨x2, hx2, h⟩ := h
    refine obd_go (cg_I rfl hx2) ?_
    replace h := ite_or h; rcases h with ⟨hc, h⟩ | ⟨hc, h⟩
    · refine ite_goT hc ?_
      replace h := obd_of h; obtain ⟨x3, hx3, h⟩ := h
      refine obd_go (cg_A rfl hx3) ?_
      replace h := obd_of h; obtain ⟨a4, rfl, h⟩ := h; refine obd_go rfl ?_
      replace h := jgd_of h; obtain ⟨hb, h⟩ := h; refine jgd_go (c_job hb) ?_
      replace h := obd_of h; obtain ⟨x5, hx5, h⟩ := h; refine obd_go (t_Row_at hs _ _ _ _ hw hx5).1 ?_
      exact t_Section_settled_32 hs _ _ _ _ _ hw h
    · refine ite_goF hc ?_
      exact t_Section_settled_32 hs _ _ _ _ _ hw h
  · refine ite_goF hc ?_
    obtain ⟨rfl, rfl⟩ := Prod.mk.inj (Option.some.inj h); exact ⟨rfl, hw⟩
set_option maxRecDepth 10000 in
set_option maxHeartbeats 4000000 in
theorem t_Chain_looped_84 {N : Nat} {B : Nat} {SA : Nat → Nat} {h0 : Nat → Option JCell} (hs : CS B SA h0) {k6 : Nat → Int32 → Option Nat → Int64 → Int32 → CT → Option (Int64 × CT)} {k6G : Nat → Int32 → Option Nat → Int64 → Int32 → JMem → Option (Int64 × JMem)} (i6 : ∀ (v0 : Nat) (v1 : Int32) (v2 : Option Nat) (v5 : Int64) (v7 : Int32) (C : CT) (r : Int64) (C9 : CT), CW B C → k6 v0 v1 v2 v5 v7 C = some (r, C9) → k6G v0 v1 v2 v5 v7 (ovC C h0, ck C) = some (r, (ovC C9 h0, ck C9)) ∧ CW B C9) : ∀ (v0 : Nat) (v1 : Int32) (v2 : Option Nat) (v5 : Int64) (v7 : Int32) (C : CT) (r : Int64) (C9 : CT), CW B C → c_Chain_looped_84 N k6 v0 v1 v2 v5 v7 C = some (r, C9) → g_Chain_looped_84 N B k6G v0 v1 v2 v5 v7 (ovC C h0, ck C) = some (r, (ovC C9 h0, ck C9)) ∧ CW B C9 := by
  intro v0 v1 v2 v5 v7 C r C9 hw h
  unfold c_Chain_looped_84 at h
  unfold g_Chain_looped_84
  exact i6 _ _ _ _ _ _ _ _ hw h
set_option maxRecDepth 10000 in
set_option maxHeartbeats 4000000 in
theorem t_Chain_looped_6 {N : Nat} {B : Nat} {SA : Nat → Nat} {h0 : Nat → Option JCell} (hs : CS B SA h0) : ∀ (n : Nat), ∀ (v0 : Nat) (v1 : Int32) (v2 : Option Nat) (v5 : Int64) (v7 : Int32) (C : CT) (r : Int64) (C9 : CT), CW B C → c_Chain_looped_6 N n v0 v1 v2 v5 v7 C = some (r, C9) → g_Chain_looped_6 N B n v0 v1 v2 v5 v7 (ovC C h0, ck C) = some (r, (ovC C9 h0, ck C9)) ∧ CW B C9 := by
  intro n
  induction n with
  | zero =>
    intro v0 v1 v2 v5 v7 C r C9 hw h
    unfold c_Chain_looped_6 at h
    cases h
  | succ n ih =>
    intro v0 v1 v2 v5 v7 C r C9 hw h
    unfold c_Chain_looped_6 at h
    unfold g_Chain_looped_6
    replace h := obd_of h; obtain ⟨x1, hx1, h⟩ := h
    refine obd_go (cg_I rfl hx1) ?_
    replace h := ite_or h; rcases h with ⟨hc, h⟩ | ⟨hc, h⟩
    · refine ite_goT hc ?_
      obtain ⟨rfl, rfl⟩ := Prod.mk.inj (Option.some.inj h); exact ⟨rfl, hw⟩
    · refine ite_goF hc ?_
      replace h := jgd_of h; obtain ⟨hb, h⟩ := h; refine jgd_go (c_job hb) ?_
      replace h := obd_of h; obtain ⟨x2, hx2, h⟩ := h; refine obd_go (t_Chain_loopAt hs _ _ _ _ hw hx2).1 ?_
      replace h := jon_or h; rcases h with ⟨rfl, h⟩ | ⟨a3, rfl, h⟩
      · refine jon_goN ?_
        exact t_Chain_looped_84 hs ih _ _ _ _ _ _ _ _ hw h
      · refine jon_goS ?_
        replace h := obd_of h; obtain ⟨x4, hx4, h⟩ := h
        refine obd_go (cg_I rfl hx4) ?_
        replace h := ite_or h; rcases h with ⟨hc, h⟩ | ⟨hc, h⟩
        · refine ite_goT hc ?_
          replace h := obd_of h; obtain ⟨a5, rfl, h⟩ := h; refine obd_go rfl ?_
          replace h := obd_of h; obtain ⟨x6, hx6, h⟩ := h
          refine obd_go (cg_A rfl hx6) ?_
          replace h := obd_of h; obtain ⟨x7, hx7, h⟩ := h
          refine obd_go (cg_J rfl hx7) ?_
          replace h := obd_of h; obtain ⟨x8, hx8, h⟩ := h
          refine obd_go (cg_A rfl hx8) ?_
          replace h := obd_of h; obtain ⟨a9, rfl, h⟩ := h; refine obd_go rfl ?_
          replace h := jgd_of h; obtain ⟨hb, h⟩ := h; refine jgd_go (c_job hb) ?_
          replace h := obd_of h; obtain ⟨x10, hx10, h⟩ := h; refine obd_go (t_Row_at hs _ _ _ _ hw hx10).1 ?_
          replace h := obd_of h; obtain ⟨a11, rfl, h⟩ := h; refine obd_go rfl ?_
          replace h := obd_of h; obtain ⟨x12, hx12, h⟩ := h
          refine obd_go (y := x12) ?_ ?_
          · rcases ite_or hx12 with ⟨hb, hx⟩ | ⟨hb0, hx⟩
            · rw [if_pos (c_job hb)]; exact (t_Real_product hs _ _ _ _ _ hw hx).1
            · obtain ⟨hb, hx⟩ := jgd_of hx; rw [if_neg (c_job_ne hb (by decide)), c_job hb]; exact hx
          replace h := obd_of h; obtain ⟨x13, hx13, h⟩ := h
          refine obd_go (cg_A rfl hx13) ?_
          replace h := obd_of h; obtain ⟨x14, hx14, h⟩ := h
          refine obd_go (cg_A rfl hx14) ?_
          replace h := obd_of h; obtain ⟨a15, rfl, h⟩ := h; refine obd_go rfl ?_
          replace h := obd_of h; obtain ⟨x16, hx16, h⟩ := h
          refine obd_go (y := x16) ?_ ?_
          · rcases ite_or hx16 with ⟨hb, hx⟩ | ⟨hb0, hx⟩
            · rw [if_pos (c_job hb)]; exact hx
            · obtain ⟨hb, hx⟩ := jgd_of hx; rw [if_neg (c_job_ne hb (by decide)), c_job hb]; exact hx
          replace h := obd_of h; obtain ⟨a17, rfl, h⟩ := h; refine obd_go rfl ?_
          replace h := obd_of h; obtain ⟨x18, hx18, h⟩ := h
          refine obd_go (y := x18) ?_ ?_
          · rcases ite_or hx18 with ⟨hb, hx⟩ | ⟨hb0, hx⟩
            · rw [if_pos (c_job hb)]; exact (t_Real_plus hs _ _ _ _ _ hw hx).1
            · obtain ⟨hb, hx⟩ := jgd_of hx; rw [if_neg (c_job_ne hb (by decide)), c_job hb]; exact hx
          replace h := jgd_of h; obtain ⟨hb, h⟩ := h; refine jgd_go (c_job hb) ?_
          replace h := cbd2_of h; obtain ⟨x19, C20, hx19, h⟩ := h; have hq := (t_Section_settled hs _ _ _ _ _ hw hx19); refine jbd2_go hq.1 ?_; replace hw := hq.2
          exact t_Chain_looped_84 hs ih _ _ _ _ _ _ _ _ hw h
        · refine ite_goF hc ?_
          exact t_Chain_looped_84 hs ih _ _ _ _ _ _ _ _ hw h
set_option maxRecDepth 10000 in
set_option maxHeartbeats 4000000 in
theorem t_Chain_looped {N : Nat} {B : Nat} {SA : Nat → Nat} {h0 : Nat → Option JCell} (hs : CS B SA h0) : ∀ (v0 : Nat) (v1 : Int32) (v2 : Option Nat) (v3 : Int64) (C : CT) (r : Int64) (C9 : CT), CW B C → c_Chain_looped N v0 v1 v2 v3 C = some (r, C9) → g_Chain_looped N B v0 v1 v2 v3 (ovC C h0, ck C) = some (r, (ovC C9 h0, ck C9)) ∧ CW B C9 := by
  intro v0 v1 v2 v3 C r C9 hw h
  unfold c_Chain_looped at h
  unfold g_Chain_looped
  exact t_Chain_looped_6 hs _ _ _ _ _ _ _ _ _ hw h
set_option maxRecDepth 10000 in
set_option maxHeartbeats 4000000 in
theorem t_Chain_madeBefore_52 {B : Nat} {SA : Nat → Nat} {h0 : Nat → Option JCell} (hs : CS B SA h0) : ∀ (C : CT) (r : Int64), CW B C → c_Chain_madeBefore_52 C = some r → g_Chain_madeBefore_52 (ovC C h0) = some r ∧ True := by
  intro C r hw h
  unfold c_Chain_madeBefore_52 at h
  unfold g_Chain_madeBefore_52
  obtain rfl := Option.some.inj h; exact ⟨rfl, trivial⟩
set_option maxRecDepth 10000 in
set_option maxHeartbeats 4000000 in
theorem t_Chain_madeBefore_38 {B : Nat} {SA : Nat → Nat} {h0 : Nat → Option JCell} (hs : CS B SA h0) : ∀ (v0 : Nat) (s0 : Int32) (C : CT) (r : Int64), CW B C → c_Chain_madeBefore_38 v0 s0 C = some r → g_Chain_madeBefore_38 v0 s0 (ovC C h0) = some r ∧ True := by
  intro v0 s0 C r hw h
  unfold c_Chain_madeBefore_38 at h
  unfold g_Chain_madeBefore_38
  replace h := ite_or h; rcases h with ⟨hc, h⟩ | ⟨hc, h⟩
  · refine ite_goT hc ?_
    exact t_Chain_madeBefore_52 hs  _ _ hw h
  · refine ite_goF hc ?_
    replace h := obd_of h; obtain ⟨x1, hx1, h⟩ := h
    refine obd_go (cg_A rfl hx1) ?_
    replace h := obd_of h; obtain ⟨a2, rfl, h⟩ := h; refine obd_go rfl ?_
    replace h := obd_of h; obtain ⟨x3, hx3, h⟩ := h
    refine obd_go (ca_len hx3) ?_
    replace h := ite_or h; rcases h with ⟨hc, h⟩ | ⟨hc, h⟩
    · refine ite_goT hc ?_
      replace h := obd_of h; obtain ⟨x4, hx4, h⟩ := h
      refine obd_go (cg_A rfl hx4) ?_
      replace h := obd_of h; obtain ⟨a5, rfl, h⟩ := h; refine obd_go rfl ?_
      replace h := obd_of h; obtain ⟨x6, hx6, h⟩ := h
      refine obd_go (ca_J hx6) ?_
      obtain rfl := Option.some.inj h; exact ⟨rfl, trivial⟩
    · refine ite_goF hc ?_
      exact t_Chain_madeBefore_52 hs  _ _ hw h
set_option maxRecDepth 10000 in
set_option maxHeartbeats 4000000 in
theorem t_Chain_madeBefore {B : Nat} {SA : Nat → Nat} {h0 : Nat → Option JCell} (hs : CS B SA h0) : ∀ (v0 : Nat) (v1 : Int32) (C : CT) (r : Int64), CW B C → c_Chain_madeBefore v0 v1 C = some r → g_Chain_madeBefore v0 v1 (ovC C h0) = some r ∧ True := by
  intro v0 v1 C r hw h
  unfold c_Chain_madeBefore at h
  unfold g_Chain_madeBefore
  replace h := ite_or h; rcases h with ⟨hc, h⟩ | ⟨hc, h⟩
  · refine ite_goT hc ?_
    obtain rfl := Option.some.inj h; exact ⟨rfl, trivial⟩
  · refine ite_goF hc ?_
    replace h := obd_of h; obtain ⟨x1, hx1, h⟩ := h
    refine obd_go (cg_I rfl hx1) ?_
    replace h := ite_or h; rcases h with ⟨hc, h⟩ | ⟨hc, h⟩
    · refine ite_goT hc ?_
      replace h := obd_of h; obtain ⟨x2, hx2, h⟩ := h
      refine obd_go (cg_I rfl hx2) ?_
      replace h := ite_or h; rcases h with ⟨hc, h⟩ | ⟨hc, h⟩
      · refine ite_goT hc ?_
        exact t_Chain_madeBefore_38 hs _ _ _ _ hw h
      · refine ite_goF hc ?_
        replace h := obd_of h; obtain ⟨x3, hx3, h⟩ := h
        refine obd_go (cg_A rfl hx3) ?_
        replace h := obd_of h; obtain ⟨a4, rfl, h⟩ := h; refine obd_go rfl ?_
        replace h := obd_of h; obtain ⟨x5, hx5, h⟩ := h
        refine obd_go (ca_len hx5) ?_
        exact t_Chain_madeBefore_38 hs _ _ _ _ hw h
    · refine ite_goF hc ?_
      obtain rfl := Option.some.inj h; exact ⟨rfl, trivial⟩
set_option maxRecDepth 10000 in
set_option maxHeartbeats 4000000 in
theorem t_Chain_madeLast {B : Nat} {SA : Nat → Nat} {h0 : Nat → Option JCell} (hs : CS B SA h0) : ∀ (v0 : Nat) (C : CT) (r : Int64), CW B C → c_Chain_madeLast v0 C = some r → g_Chain_madeLast v0 (ovC C h0) = some r ∧ True := by
  intro v0 C r hw h
  unfold c_Chain_madeLast at h
  unfold g_Chain_madeLast
  replace h := jgd_of h; obtain ⟨hb, h⟩ := h; refine jgd_go (c_job hb) ?_
  replace h := obd_of h; obtain ⟨x1, hx1, h⟩ := h; refine obd_go (t_Chain_madeBefore hs _ _ _ _ hw hx1).1 ?_
  obtain rfl := Option.some.inj h; exact ⟨rfl, trivial⟩
set_option maxRecDepth 10000 in
set_option maxHeartbeats 4000000 in
theorem t_Row_push_31 {B : Nat} {SA : Nat → Nat} {h0 : Nat → Option JCell} (hs : CS B SA h0) : ∀ (s0 : Int32) (s1 : Nat) (C C9 : CT), CW B C → c_Row_push_31 s0 s1 C = some C9 → g_Row_push_31 B s0 s1 (ovC C h0, ck C) = some (ovC C9 h0, ck C9) ∧ CW B C9 := by
  intro s0 s1 C C9 hw h
  unfold c_Row_push_31 at h
  unfold g_Row_push_31
  replace h := obd_of h; obtain ⟨C1, hC1, h⟩ := h
  refine obd_go (cp_I rfl hw hC1).1 ?_; replace hw := (cp_I (h0 := h0) rfl hw hC1).2
  obtain rfl := Option.some.inj h; exact ⟨rfl, hw⟩
set_option maxRecDepth 10000 in
set_option maxHeartbeats 4000000 in
theorem t_Row_push {B : Nat} {SA : Nat → Nat} {h0 : Nat → Option JCell} (hs : CS B SA h0) : ∀ (v0 : Nat) (v1 : Int64) (C C9 : CT), CW B C → c_Row_push v0 v1 C = some C9 → g_Row_push B v0 v1 (ovC C h0, ck C) = some (ovC C9 h0, ck C9) ∧ CW B C9 := by
  intro v0 v1 C C9 hw h
  unfold c_Row_push at h
  unfold g_Row_push
  replace h := jgd_of h; obtain ⟨hb, h⟩ := h; refine jgd_go (c_job hb) ?_
  replace h := obd_of h; obtain ⟨C1, hC1, h⟩ := h; have hq := (t_Row_put hs _ _ _ _ _ hw hC1); refine obd_go hq.1 ?_; replace hw := hq.2
  replace h := obd_of h; obtain ⟨x2, hx2, h⟩ := h
  refine obd_go (cg_I rfl hx2) ?_
  replace h := obd_of h; obtain ⟨x3, hx3, h⟩ := h
  refine obd_go (cg_A rfl hx3) ?_
  replace h := obd_of h; obtain ⟨a4, rfl, h⟩ := h; refine obd_go rfl ?_
  replace h := obd_of h; obtain ⟨x5, hx5, h⟩ := h
  refine obd_go (ca_len hx5) ?_
  replace h := ite_or h; rcases h with ⟨hc, h⟩ | ⟨hc, h⟩
  · refine ite_goT hc ?_
    replace h := obd_of h; obtain ⟨x6, hx6, h⟩ := h
    refine obd_go (cg_I rfl hx6) ?_
    exact t_Row_push_31 hs _ _ _ _ hw h
  · refine ite_goF hc ?_
    exact t_Row_push_31 hs _ _ _ _ hw h
set_option maxRecDepth 10000 in
set_option maxHeartbeats 4000000 in
theorem t_Chain_note_43 {N : Nat} {B : Nat} {SA : Nat → Nat} {h0 : Nat → Option JCell} (hs : CS B SA h0) {k3 : Nat → Int32 → Int64 → Int32 → CT → Option CT} {k3G : Nat → Int32 → Int64 → Int32 → JMem → Option JMem} (i3 : ∀ (v0 : Nat) (v1 : Int32) (v2 : Int64) (v4 : Int32) (C C9 : CT), CW B C → k3 v0 v1 v2 v4 C = some C9 → k3G v0 v1 v2 v4 (ovC C h0, ck C) = some (ovC C9 h0, ck C9) ∧ CW B C9) : ∀ (v0 : Nat) (v1 : Int32) (v2 : Int64) (v4 : Int32) (C C9 : CT), CW B C → c_Chain_note_43 N k3 v0 v1 v2 v4 C = some C9 → g_Chain_note_43 N B k3G v0 v1 v2 v4 (ovC C h0, ck C) = some (ovC C9 h0, ck C9) ∧ CW B C9 := by
  intro v0 v1 v2 v4 C C9 hw h
  unfold c_Chain_note_43 at h
  unfold g_Chain_note_43
  exact i3 _ _ _ _ _ _ hw h
set_option maxRecDepth 10000 in
set_option maxHeartbeats 4000000 in
theorem t_Chain_note_3 {N : Nat} {B : Nat} {SA : Nat → Nat} {h0 : Nat → Option JCell} (hs : CS B SA h0) : ∀ (n : Nat), ∀ (v0 : Nat) (v1 : Int32) (v2 : Int64) (v4 : Int32) (C C9 : CT), CW B C → c_Chain_note_3 N n v0 v1 v2 v4 C = some C9 → g_Chain_note_3 N B n v0 v1 v2 v4 (ovC C h0, ck C) = some (ovC C9 h0, ck C9) ∧ CW B C9 := by
  intro n
  induction n with
  | zero =>
    intro v0 v1 v2 v4 C C9 hw h
    unfold c_Chain_note_3 at h
    cases h
  | succ n ih =>
    intro v0 v1 v2 v4 C C9 hw h
    unfold c_Chain_note_3 at h
    unfold g_Chain_note_3
    replace h := obd_of h; obtain ⟨x1, hx1, h⟩ := h
    refine obd_go (cg_I rfl hx1) ?_
    replace h := ite_or h; rcases h with ⟨hc, h⟩ | ⟨hc, h⟩
    · refine ite_goT hc ?_
      obtain rfl := Option.some.inj h; exact ⟨rfl, hw⟩
    · refine ite_goF hc ?_
      replace h := jgd_of h; obtain ⟨hb, h⟩ := h; refine jgd_go (c_job hb) ?_
      replace h := obd_of h; obtain ⟨x2, hx2, h⟩ := h; refine obd_go (t_Chain_loopAt hs _ _ _ _ hw hx2).1 ?_
      replace h := jon_or h; rcases h with ⟨rfl, h⟩ | ⟨a3, rfl, h⟩
      · refine jon_goN ?_
        exact t_Chain_note_43 hs ih _ _ _ _ _ _ hw h
      · refine jon_goS ?_
        replace h := obd_of h; obtain ⟨x4, hx4, h⟩ := h
        refine obd_go (cg_I rfl hx4) ?_
        replace h := ite_or h; rcases h with ⟨hc, h⟩ | ⟨hc, h⟩
        · refine ite_goT hc ?_
          replace h := obd_of h; obtain ⟨x5, hx5, h⟩ := h
          refine obd_go (cg_A rfl hx5) ?_
          replace h := obd_of h; obtain ⟨a6, rfl, h⟩ := h; refine obd_go rfl ?_
          replace h := jgd_of h; obtain ⟨hb, h⟩ := h; refine jgd_go (c_job hb) ?_
          replace h := obd_of h; obtain ⟨C7, hC7, h⟩ := h; have hq := (t_Row_push hs _ _ _ _ hw hC7); refine obd_go hq.1 ?_; replace hw := hq.2
          exact t_Chain_note_43 hs ih _ _ _ _ _ _ hw h
        · refine ite_goF hc ?_
          exact t_Chain_note_43 hs ih _ _ _ _ _ _ hw h
set_option maxRecDepth 10000 in
set_option maxHeartbeats 4000000 in
theorem t_Chain_note {N : Nat} {B : Nat} {SA : Nat → Nat} {h0 : Nat → Option JCell} (hs : CS B SA h0) : ∀ (v0 : Nat) (v1 : Int32) (v2 : Int64) (C C9 : CT), CW B C → c_Chain_note N v0 v1 v2 C = some C9 → g_Chain_note N B v0 v1 v2 (ovC C h0, ck C) = some (ovC C9 h0, ck C9) ∧ CW B C9 := by
  intro v0 v1 v2 C C9 hw h
  unfold c_Chain_note at h
  unfold g_Chain_note
  exact t_Chain_note_3 hs _ _ _ _ _ _ _ hw h
set_option maxRecDepth 10000 in
set_option maxHeartbeats 4000000 in
theorem t_Section_letsThrough_33 {B : Nat} {SA : Nat → Nat} {h0 : Nat → Option JCell} (hs : CS B SA h0) : ∀ (v1 : Int64) (s0 : Int64) (s2 : Option Nat) (C : CT) (r : Bool) (C9 : CT), CW B C → c_Section_letsThrough_33 v1 s0 s2 C = some (r, C9) → g_Section_letsThrough_33 B v1 s0 s2 (ovC C h0, ck C) = some (r, (ovC C9 h0, ck C9)) ∧ CW B C9 := by
  intro v1 s0 s2 C r C9 hw h
  unfold c_Section_letsThrough_33 at h
  unfold g_Section_letsThrough_33
  replace h := obd_of h; obtain ⟨a1, rfl, h⟩ := h; refine obd_go rfl ?_
  replace h := jgd_of h; obtain ⟨hb, h⟩ := h; refine jgd_go (c_job hb) ?_
  replace h := obd_of h; obtain ⟨C2, hC2, h⟩ := h; have hq := (t_Row_put hs _ _ _ _ _ hw hC2); refine obd_go hq.1 ?_; replace hw := hq.2
  replace h := ite_or h; rcases h with ⟨hc, h⟩ | ⟨hc, h⟩
  · refine ite_goT hc ?_
    obtain ⟨rfl, rfl⟩ := Prod.mk.inj (Option.some.inj h); exact ⟨rfl, hw⟩
  · refine ite_goF hc ?_
    obtain ⟨rfl, rfl⟩ := Prod.mk.inj (Option.some.inj h); exact ⟨rfl, hw⟩
set_option maxRecDepth 10000 in
set_option maxHeartbeats 4000000 in
theorem t_Section_letsThrough {B : Nat} {SA : Nat → Nat} {h0 : Nat → Option JCell} (hs : CS B SA h0) : ∀ (v0 : Nat) (C : CT) (r : Bool) (C9 : CT), CW B C → c_Section_letsThrough v0 C = some (r, C9) → g_Section_letsThrough B v0 (ovC C h0, ck C) = some (r, (ovC C9 h0, ck C9)) ∧ CW B C9 := by
  intro v0 C r C9 hw h
  unfold c_Section_letsThrough at h
  unfold g_Section_letsThrough
  replace h := obd_of h; obtain ⟨x1, hx1, h⟩ := h
  refine obd_go (cg_A rfl hx1) ?_
  replace h := obd_of h; obtain ⟨a2, rfl, h⟩ := h; refine obd_go rfl ?_
  replace h := jgd_of h; obtain ⟨hb, h⟩ := h; refine jgd_go (c_job hb) ?_
  replace h := obd_of h; obtain ⟨x3, hx3, h⟩ := h; refine obd_go (t_Row_at hs _ _ _ _ hw hx3).1 ?_
  replace h := obd_of h; obtain ⟨x4, hx4, h⟩ := h
  refine obd_go (cg_A rfl hx4) ?_
  replace h := obd_of h; obtain ⟨x5, hx5, h⟩ := h
  refine obd_go (cg_I rfl hx5) ?_
  replace h := ite_or h; rcases h with ⟨hc, h⟩ | ⟨hc, h⟩
  · refine ite_goT hc ?_
    exact t_Section_letsThrough_33 hs _ _ _ _ _ _ hw h
  · refine ite_goF hc ?_
    exact t_Section_letsThrough_33 hs _ _ _ _ _ _ hw h
set_option maxRecDepth 10000 in
set_option maxHeartbeats 4000000 in
theorem t_Real_compared_32 {B : Nat} {SA : Nat → Nat} {h0 : Nat → Option JCell} (hs : CS B SA h0) : ∀ (s0 : Int64) (s1 : Int64) (C : CT) (r : Int32), CW B C → c_Real_compared_32 s0 s1 C = some r → g_Real_compared_32 s0 s1 (ovC C h0) = some r ∧ True := by
  intro s0 s1 C r hw h
  unfold c_Real_compared_32 at h
  unfold g_Real_compared_32
  obtain rfl := Option.some.inj h; exact ⟨rfl, trivial⟩
set_option maxRecDepth 10000 in
set_option maxHeartbeats 4000000 in
theorem t_Real_compared_16 {B : Nat} {SA : Nat → Nat} {h0 : Nat → Option JCell} (hs : CS B SA h0) : ∀ (v0 : Nat) (v3 : Int64) (s0 : Int64) (C : CT) (r : Int32), CW B C → c_Real_compared_16 v0 v3 s0 C = some r → g_Real_compared_16 v0 v3 s0 (ovC C h0) = some r ∧ True := by
  intro v0 v3 s0 C r hw h
  unfold c_Real_compared_16 at h
  unfold g_Real_compared_16
  replace h := ite_or h; rcases h with ⟨hc, h⟩ | ⟨hc, h⟩
  · refine ite_goT hc ?_
    exact t_Real_compared_32 hs _ _ _ _ hw h
  · refine ite_goF hc ?_
    replace h := jgd_of h; obtain ⟨hb, h⟩ := h; refine jgd_go (c_job hb) ?_
    replace h := obd_of h; obtain ⟨x1, hx1, h⟩ := h; refine obd_go (t_Real_sizeOf hs _ _ _ _ hw hx1).1 ?_
    exact t_Real_compared_32 hs _ _ _ _ hw h
set_option maxRecDepth 10000 in
set_option maxHeartbeats 4000000 in
theorem t_Real_compared {B : Nat} {SA : Nat → Nat} {h0 : Nat → Option JCell} (hs : CS B SA h0) : ∀ (v0 : Nat) (v1 : Int64) (v3 : Int64) (C : CT) (r : Int32), CW B C → c_Real_compared v0 v1 v3 C = some r → g_Real_compared v0 v1 v3 (ovC C h0) = some r ∧ True := by
  intro v0 v1 v3 C r hw h
  unfold c_Real_compared at h
  unfold g_Real_compared
  replace h := ite_or h; rcases h with ⟨hc, h⟩ | ⟨hc, h⟩
  · refine ite_goT hc ?_
    exact t_Real_compared_16 hs _ _ _ _ _ hw h
  · refine ite_goF hc ?_
    replace h := jgd_of h; obtain ⟨hb, h⟩ := h; refine jgd_go (c_job hb) ?_
    replace h := obd_of h; obtain ⟨x1, hx1, h⟩ := h; refine obd_go (t_Real_sizeOf hs _ _ _ _ hw hx1).1 ?_
    exact t_Real_compared_16 hs _ _ _ _ _ hw h
set_option maxRecDepth 10000 in
set_option maxHeartbeats 4000000 in
theorem t_Numbers_above {B : Nat} {SA : Nat → Nat} {h0 : Nat → Option JCell} (hs : CS B SA h0) : ∀ (v0 : Nat) (v1 : Int64) (v3 : Int64) (C : CT) (r : Bool), CW B C → c_Numbers_above v0 v1 v3 C = some r → g_Numbers_above v0 v1 v3 (ovC C h0) = some r ∧ True := by
  intro v0 v1 v3 C r hw h
  unfold c_Numbers_above at h
  unfold g_Numbers_above
  replace h := obd_of h; obtain ⟨x1, hx1, h⟩ := h
  refine obd_go (y := x1) ?_ ?_
  · rcases ite_or hx1 with ⟨hb, hx⟩ | ⟨hb0, hx⟩
    · rw [if_pos (c_job hb)]; exact (t_Real_isNumber hs _ _ _ _ hw hx).1
    · obtain ⟨hb, hx⟩ := jgd_of hx; rw [if_neg (c_job_ne hb (by decide)), c_job hb]; exact hx
  replace h := ite_or h; rcases h with ⟨hc, h⟩ | ⟨hc, h⟩
  · refine ite_goT hc ?_
    replace h := obd_of h; obtain ⟨x2, hx2, h⟩ := h
    refine obd_go (y := x2) ?_ ?_
    · rcases ite_or hx2 with ⟨hb, hx⟩ | ⟨hb0, hx⟩
      · rw [if_pos (c_job hb)]; exact (t_Real_isNumber hs _ _ _ _ hw hx).1
      · obtain ⟨hb, hx⟩ := jgd_of hx; rw [if_neg (c_job_ne hb (by decide)), c_job hb]; exact hx
    replace h := ite_or h; rcases h with ⟨hc, h⟩ | ⟨hc, h⟩
    · refine ite_goT hc ?_
      replace h := obd_of h; obtain ⟨x3, hx3, h⟩ := h
      refine obd_go (y := x3) ?_ ?_
      · rcases ite_or hx3 with ⟨hb, hx⟩ | ⟨hb0, hx⟩
        · rw [if_pos (c_job hb)]; exact (t_Real_compared hs _ _ _ _ _ hw hx).1
        · obtain ⟨hb, hx⟩ := jgd_of hx; rw [if_neg (c_job_ne hb (by decide)), c_job hb]; exact hx
      replace h := ite_or h; rcases h with ⟨hc, h⟩ | ⟨hc, h⟩
      · refine ite_goT hc ?_
        obtain rfl := Option.some.inj h; exact ⟨rfl, trivial⟩
      · refine ite_goF hc ?_
        obtain rfl := Option.some.inj h; exact ⟨rfl, trivial⟩
    · refine ite_goF hc ?_
      obtain rfl := Option.some.inj h; exact ⟨rfl, trivial⟩
  · refine ite_goF hc ?_
    obtain rfl := Option.some.inj h; exact ⟨rfl, trivial⟩
set_option maxRecDepth 10000 in
set_option maxHeartbeats 4000000 in
theorem t_Real_negative {B : Nat} {SA : Nat → Nat} {h0 : Nat → Option JCell} (hs : CS B SA h0) : ∀ (v0 : Nat) (v1 : Int64) (C : CT) (r : Int64), CW B C → c_Real_negative v0 v1 C = some r → g_Real_negative v0 v1 (ovC C h0) = some r ∧ True := by
  intro v0 v1 C r hw h
  unfold c_Real_negative at h
  unfold g_Real_negative
  replace h := jgd_of h; obtain ⟨hb, h⟩ := h; refine jgd_go (c_job hb) ?_
  replace h := obd_of h; obtain ⟨x1, hx1, h⟩ := h; refine obd_go (t_Real_isNumber hs _ _ _ _ hw hx1).1 ?_
  replace h := ite_or h; rcases h with ⟨hc, h⟩ | ⟨hc, h⟩
  · refine ite_goT hc ?_
    replace h := obd_of h; obtain ⟨x2, hx2, h⟩ := h
    refine obd_go (cg_J rfl hx2) ?_
    obtain rfl := Option.some.inj h; exact ⟨rfl, trivial⟩
  · refine ite_goF hc ?_
    replace h := obd_of h; obtain ⟨x3, hx3, h⟩ := h
    refine obd_go (cg_J rfl hx3) ?_
    obtain rfl := Option.some.inj h; exact ⟨rfl, trivial⟩
set_option maxRecDepth 10000 in
set_option maxHeartbeats 4000000 in
theorem t_Section_clipped {B : Nat} {SA : Nat → Nat} {h0 : Nat → Option JCell} (hs : CS B SA h0) : ∀ (v0 : Nat) (v1 : Int64) (C : CT) (r : Int64) (C9 : CT), CW B C → c_Section_clipped v0 v1 C = some (r, C9) → g_Section_clipped B v0 v1 (ovC C h0, ck C) = some (r, (ovC C9 h0, ck C9)) ∧ CW B C9 := by
  intro v0 v1 C r C9 hw h
  unfold c_Section_clipped at h
  unfold g_Section_clipped
  replace h := jgd_of h; obtain ⟨hb, h⟩ := h; refine jgd_go (c_job hb) ?_
  replace h := obd_of h; obtain ⟨x1, hx1, h⟩ := h; refine obd_go (t_Section_factor hs _ _ _ _ hw hx1).1 ?_
  replace h := obd_of h; obtain ⟨x2, hx2, h⟩ := h
  refine obd_go (cg_A rfl hx2) ?_
  replace h := obd_of h; obtain ⟨a3, rfl, h⟩ := h; refine obd_go rfl ?_
  replace h := obd_of h; obtain ⟨x4, hx4, h⟩ := h
  refine obd_go (y := x4) ?_ ?_
  · rcases ite_or hx4 with ⟨hb, hx⟩ | ⟨hb0, hx⟩
    · rw [if_pos (c_job hb)]; exact (t_Numbers_above hs _ _ _ _ _ hw hx).1
    · obtain ⟨hb, hx⟩ := jgd_of hx; rw [if_neg (c_job_ne hb (by decide)), c_job hb]; exact (t_Numbers_above hs _ _ _ _ _ hw hx).1
  replace h := ite_or h; rcases h with ⟨hc, h⟩ | ⟨hc, h⟩
  · refine ite_goT hc ?_
    replace h := obd_of h; obtain ⟨x5, hx5, h⟩ := h
    refine obd_go (cg_I rfl hx5) ?_
    replace h := obd_of h; obtain ⟨C6, hC6, h⟩ := h
    refine obd_go (cp_I rfl hw hC6).1 ?_; replace hw := (cp_I (h0 := h0) rfl hw hC6).2
    obtain ⟨rfl, rfl⟩ := Prod.mk.inj (Option.some.inj h); exact ⟨rfl, hw⟩
  · refine ite_goF hc ?_
    replace h := obd_of h; obtain ⟨x7, hx7, h⟩ := h
    refine obd_go (cg_A rfl hx7) ?_
    replace h := obd_of h; obtain ⟨a8, rfl, h⟩ := h; refine obd_go rfl ?_
    replace h := obd_of h; obtain ⟨x9, hx9, h⟩ := h
    refine obd_go (y := x9) ?_ ?_
    · rcases ite_or hx9 with ⟨hb, hx⟩ | ⟨hb0, hx⟩
      · rw [if_pos (c_job hb)]; exact (t_Real_negative hs _ _ _ _ hw hx).1
      · obtain ⟨hb, hx⟩ := jgd_of hx; rw [if_neg (c_job_ne hb (by decide)), c_job hb]; exact hx
    replace h := obd_of h; obtain ⟨x10, hx10, h⟩ := h
    refine obd_go (cg_A rfl hx10) ?_
    replace h := obd_of h; obtain ⟨a11, rfl, h⟩ := h; refine obd_go rfl ?_
    replace h := obd_of h; obtain ⟨x12, hx12, h⟩ := h
    refine obd_go (y := x12) ?_ ?_
    · rcases ite_or hx12 with ⟨hb, hx⟩ | ⟨hb0, hx⟩
      · rw [if_pos (c_job hb)]; exact (t_Numbers_above hs _ _ _ _ _ hw hx).1
      · obtain ⟨hb, hx⟩ := jgd_of hx; rw [if_neg (c_job_ne hb (by decide)), c_job hb]; exact (t_Numbers_above hs _ _ _ _ _ hw hx).1
    replace h := ite_or h; rcases h with ⟨hc, h⟩ | ⟨hc, h⟩
    · refine ite_goT hc ?_
      replace h := obd_of h; obtain ⟨x13, hx13, h⟩ := h
      refine obd_go (cg_I rfl hx13) ?_
      replace h := obd_of h; obtain ⟨C14, hC14, h⟩ := h
      refine obd_go (cp_I rfl hw hC14).1 ?_; replace hw := (cp_I (h0 := h0) rfl hw hC14).2
      obtain ⟨rfl, rfl⟩ := Prod.mk.inj (Option.some.inj h); exact ⟨rfl, hw⟩
    · refine ite_goF hc ?_
      obtain ⟨rfl, rfl⟩ := Prod.mk.inj (Option.some.inj h); exact ⟨rfl, hw⟩
set_option maxRecDepth 10000 in
set_option maxHeartbeats 4000000 in
theorem t_Section_times {B : Nat} {SA : Nat → Nat} {h0 : Nat → Option JCell} (hs : CS B SA h0) : ∀ (v0 : Nat) (v1 : Int32) (v2 : Int64) (C : CT) (r : Int64), CW B C → c_Section_times v0 v1 v2 C = some r → g_Section_times v0 v1 v2 (ovC C h0) = some r ∧ True := by
  intro v0 v1 v2 C r hw h
  unfold c_Section_times at h
  unfold g_Section_times
  replace h := obd_of h; obtain ⟨x1, hx1, h⟩ := h
  refine obd_go (cg_A rfl hx1) ?_
  replace h := jgd_of h; obtain ⟨hb, h⟩ := h; refine jgd_go (c_job hb) ?_
  replace h := obd_of h; obtain ⟨x2, hx2, h⟩ := h; refine obd_go (t_Section_factor hs _ _ _ _ hw hx2).1 ?_
  replace h := obd_of h; obtain ⟨a3, rfl, h⟩ := h; refine obd_go rfl ?_
  replace h := obd_of h; obtain ⟨x4, hx4, h⟩ := h
  refine obd_go (y := x4) ?_ ?_
  · rcases ite_or hx4 with ⟨hb, hx⟩ | ⟨hb0, hx⟩
    · rw [if_pos (c_job hb)]; exact (t_Real_product hs _ _ _ _ _ hw hx).1
    · obtain ⟨hb, hx⟩ := jgd_of hx; rw [if_neg (c_job_ne hb (by decide)), c_job hb]; exact hx
  obtain rfl := Option.some.inj h; exact ⟨rfl, trivial⟩
set_option maxRecDepth 10000 in
set_option maxHeartbeats 4000000 in
theorem t_Section_comb {B : Nat} {SA : Nat → Nat} {h0 : Nat → Option JCell} (hs : CS B SA h0) : ∀ (v0 : Nat) (v1 : Int64) (C : CT) (r : Int64) (C9 : CT), CW B C → c_Section_comb v0 v1 C = some (r, C9) → g_Section_comb B v0 v1 (ovC C h0, ck C) = some (r, (ovC C9 h0, ck C9)) ∧ CW B C9 := by
  intro v0 v1 C r C9 hw h
  unfold c_Section_comb at h
  unfold g_Section_comb
  replace h := obd_of h; obtain ⟨x1, hx1, h⟩ := h
  refine obd_go (cg_A rfl hx1) ?_
  replace h := obd_of h; obtain ⟨x2, hx2, h⟩ := h
  refine obd_go (cg_A rfl hx2) ?_
  replace h := obd_of h; obtain ⟨a3, rfl, h⟩ := h; refine obd_go rfl ?_
  replace h := obd_of h; obtain ⟨x4, hx4, h⟩ := h
  refine obd_go (y := x4) ?_ ?_
  · rcases ite_or hx4 with ⟨hb, hx⟩ | ⟨hb0, hx⟩
    · rw [if_pos (c_job hb)]; exact hx
    · obtain ⟨hb, hx⟩ := jgd_of hx; rw [if_neg (c_job_ne hb (by decide)), c_job hb]; exact hx
  replace h := obd_of h; obtain ⟨x5, hx5, h⟩ := h
  refine obd_go (cg_A rfl hx5) ?_
  replace h := obd_of h; obtain ⟨a6, rfl, h⟩ := h; refine obd_go rfl ?_
  replace h := jgd_of h; obtain ⟨hb, h⟩ := h; refine jgd_go (c_job hb) ?_
  replace h := obd_of h; obtain ⟨x7, hx7, h⟩ := h; refine obd_go (t_Row_at hs _ _ _ _ hw hx7).1 ?_
  replace h := jgd_of h; obtain ⟨hb, h⟩ := h; refine jgd_go (c_job hb) ?_
  replace h := obd_of h; obtain ⟨x8, hx8, h⟩ := h; refine obd_go (t_Section_times hs _ _ _ _ _ hw hx8).1 ?_
  replace h := obd_of h; obtain ⟨a9, rfl, h⟩ := h; refine obd_go rfl ?_
  replace h := obd_of h; obtain ⟨x10, hx10, h⟩ := h
  refine obd_go (y := x10) ?_ ?_
  · rcases ite_or hx10 with ⟨hb, hx⟩ | ⟨hb0, hx⟩
    · rw [if_pos (c_job hb)]; exact (t_Real_plus hs _ _ _ _ _ hw hx).1
    · obtain ⟨hb, hx⟩ := jgd_of hx; rw [if_neg (c_job_ne hb (by decide)), c_job hb]; exact hx
  replace h := jgd_of h; obtain ⟨hb, h⟩ := h; refine jgd_go (c_job hb) ?_
  replace h := cbd2_of h; obtain ⟨x11, C12, hx11, h⟩ := h; have hq := (t_Section_settled hs _ _ _ _ _ hw hx11); refine jbd2_go hq.1 ?_; replace hw := hq.2
  replace h := obd_of h; obtain ⟨x13, hx13, h⟩ := h
  refine obd_go (cg_A rfl hx13) ?_
  replace h := obd_of h; obtain ⟨a14, rfl, h⟩ := h; refine obd_go rfl ?_
  replace h := jgd_of h; obtain ⟨hb, h⟩ := h; refine jgd_go (c_job hb) ?_
  replace h := obd_of h; obtain ⟨C15, hC15, h⟩ := h; have hq := (t_Row_push hs _ _ _ _ hw hC15); refine obd_go hq.1 ?_; replace hw := hq.2
  obtain ⟨rfl, rfl⟩ := Prod.mk.inj (Option.some.inj h); exact ⟨rfl, hw⟩
set_option maxRecDepth 10000 in
set_option maxHeartbeats 4000000 in
theorem t_Shorts_sizeOf {B : Nat} {SA : Nat → Nat} {h0 : Nat → Option JCell} (hs : CS B SA h0) : ∀ (v0 : Nat) (v1 : Int64) (C : CT) (r : Int64), CW B C → c_Shorts_sizeOf v0 v1 C = some r → g_Shorts_sizeOf v0 v1 (ovC C h0) = some r ∧ True := by
  intro v0 v1 C r hw h
  unfold c_Shorts_sizeOf at h
  unfold g_Shorts_sizeOf
  replace h := ite_or h; rcases h with ⟨hc, h⟩ | ⟨hc, h⟩
  · refine ite_goT hc ?_
    obtain rfl := Option.some.inj h; exact ⟨rfl, trivial⟩
  · refine ite_goF hc ?_
    replace h := jgd_of h; obtain ⟨hb, h⟩ := h; refine jgd_go (c_job hb) ?_
    obtain rfl := Option.some.inj h; exact ⟨rfl, trivial⟩
set_option maxRecDepth 10000 in
set_option maxHeartbeats 4000000 in
theorem t_Section_deadened {B : Nat} {SA : Nat → Nat} {h0 : Nat → Option JCell} (hs : CS B SA h0) : ∀ (v0 : Nat) (v1 : Int64) (C : CT) (r : Int64) (C9 : CT), CW B C → c_Section_deadened v0 v1 C = some (r, C9) → g_Section_deadened B v0 v1 (ovC C h0, ck C) = some (r, (ovC C9 h0, ck C9)) ∧ CW B C9 := by
  intro v0 v1 C r C9 hw h
  unfold c_Section_deadened at h
  unfold g_Section_deadened
  replace h := jgd_of h; obtain ⟨hb, h⟩ := h; refine jgd_go (c_job hb) ?_
  replace h := obd_of h; obtain ⟨x1, hx1, h⟩ := h; refine obd_go (t_Section_factor hs _ _ _ _ hw hx1).1 ?_
  replace h := obd_of h; obtain ⟨x2, hx2, h⟩ := h
  refine obd_go (cg_A rfl hx2) ?_
  replace h := obd_of h; obtain ⟨a3, rfl, h⟩ := h; refine obd_go rfl ?_
  replace h := obd_of h; obtain ⟨x4, hx4, h⟩ := h
  refine obd_go (y := x4) ?_ ?_
  · rcases ite_or hx4 with ⟨hb, hx⟩ | ⟨hb0, hx⟩
    · rw [if_pos (c_job hb)]; exact (t_Real_isNumber hs _ _ _ _ hw hx).1
    · obtain ⟨hb, hx⟩ := jgd_of hx; rw [if_neg (c_job_ne hb (by decide)), c_job hb]; exact hx
  replace h := ite_or h; rcases h with ⟨hc, h⟩ | ⟨hc, h⟩
  · refine ite_goT hc ?_
    replace h := obd_of h; obtain ⟨x5, hx5, h⟩ := h
    refine obd_go (cg_A rfl hx5) ?_
    replace h := obd_of h; obtain ⟨a6, rfl, h⟩ := h; refine obd_go rfl ?_
    replace h := obd_of h; obtain ⟨x7, hx7, h⟩ := h
    refine obd_go (y := x7) ?_ ?_
    · rcases ite_or hx7 with ⟨hb, hx⟩ | ⟨hb0, hx⟩
      · rw [if_pos (c_job hb)]; exact (t_Real_isNumber hs _ _ _ _ hw hx).1
      · obtain ⟨hb, hx⟩ := jgd_of hx; rw [if_neg (c_job_ne hb (by decide)), c_job hb]; exact hx
    replace h := ite_or h; rcases h with ⟨hc, h⟩ | ⟨hc, h⟩
    · refine ite_goT hc ?_
      replace h := obd_of h; obtain ⟨x8, hx8, h⟩ := h
      refine obd_go (cg_A rfl hx8) ?_
      replace h := obd_of h; obtain ⟨x9, hx9, h⟩ := h
      refine obd_go (cg_A rfl hx9) ?_
      replace h := obd_of h; obtain ⟨a10, rfl, h⟩ := h; refine obd_go rfl ?_
      replace h := obd_of h; obtain ⟨x11, hx11, h⟩ := h
      refine obd_go (y := x11) ?_ ?_
      · rcases ite_or hx11 with ⟨hb, hx⟩ | ⟨hb0, hx⟩
        · rw [if_pos (c_job hb)]; exact (t_Real_sizeOf hs _ _ _ _ hw hx).1
        · obtain ⟨hb, hx⟩ := jgd_of hx; rw [if_neg (c_job_ne hb (by decide)), c_job hb]; exact (t_Shorts_sizeOf hs _ _ _ _ hw hx).1
      replace h := obd_of h; obtain ⟨a12, rfl, h⟩ := h; refine obd_go rfl ?_
      replace h := obd_of h; obtain ⟨x13, hx13, h⟩ := h
      refine obd_go (y := x13) ?_ ?_
      · rcases ite_or hx13 with ⟨hb, hx⟩ | ⟨hb0, hx⟩
        · rw [if_pos (c_job hb)]; exact (t_Numbers_above hs _ _ _ _ _ hw hx).1
        · obtain ⟨hb, hx⟩ := jgd_of hx; rw [if_neg (c_job_ne hb (by decide)), c_job hb]; exact (t_Numbers_above hs _ _ _ _ _ hw hx).1
      replace h := ite_or h; rcases h with ⟨hc, h⟩ | ⟨hc, h⟩
      · refine ite_goT hc ?_
        obtain ⟨rfl, rfl⟩ := Prod.mk.inj (Option.some.inj h); exact ⟨rfl, hw⟩
      · refine ite_goF hc ?_
        replace h := obd_of h; obtain ⟨x14, hx14, h⟩ := h
        refine obd_go (cg_I rfl hx14) ?_
        replace h := obd_of h; obtain ⟨C15, hC15, h⟩ := h
        refine obd_go (cp_I rfl hw hC15).1 ?_; replace hw := (cp_I (h0 := h0) rfl hw hC15).2
        obtain ⟨rfl, rfl⟩ := Prod.mk.inj (Option.some.inj h); exact ⟨rfl, hw⟩
    · refine ite_goF hc ?_
      obtain ⟨rfl, rfl⟩ := Prod.mk.inj (Option.some.inj h); exact ⟨rfl, hw⟩
  · refine ite_goF hc ?_
    obtain ⟨rfl, rfl⟩ := Prod.mk.inj (Option.some.inj h); exact ⟨rfl, hw⟩
set_option maxRecDepth 10000 in
set_option maxHeartbeats 4000000 in
theorem t_Section_delayed {B : Nat} {SA : Nat → Nat} {h0 : Nat → Option JCell} (hs : CS B SA h0) : ∀ (v0 : Nat) (v1 : Int64) (C : CT) (r : Int64) (C9 : CT), CW B C → c_Section_delayed v0 v1 C = some (r, C9) → g_Section_delayed B v0 v1 (ovC C h0, ck C) = some (r, (ovC C9 h0, ck C9)) ∧ CW B C9 := by
  intro v0 v1 C r C9 hw h
  unfold c_Section_delayed at h
  unfold g_Section_delayed
  replace h := obd_of h; obtain ⟨x1, hx1, h⟩ := h
  refine obd_go (cg_A rfl hx1) ?_
  replace h := obd_of h; obtain ⟨a2, rfl, h⟩ := h; refine obd_go rfl ?_
  replace h := jgd_of h; obtain ⟨hb, h⟩ := h; refine jgd_go (c_job hb) ?_
  replace h := obd_of h; obtain ⟨x3, hx3, h⟩ := h; refine obd_go (t_Row_at hs _ _ _ _ hw hx3).1 ?_
  replace h := obd_of h; obtain ⟨x4, hx4, h⟩ := h
  refine obd_go (cg_A rfl hx4) ?_
  replace h := obd_of h; obtain ⟨a5, rfl, h⟩ := h; refine obd_go rfl ?_
  replace h := jgd_of h; obtain ⟨hb, h⟩ := h; refine jgd_go (c_job hb) ?_
  replace h := obd_of h; obtain ⟨C6, hC6, h⟩ := h; have hq := (t_Row_push hs _ _ _ _ hw hC6); refine obd_go hq.1 ?_; replace hw := hq.2
  obtain ⟨rfl, rfl⟩ := Prod.mk.inj (Option.some.inj h); exact ⟨rfl, hw⟩
set_option maxRecDepth 10000 in
set_option maxHeartbeats 4000000 in
theorem t_Real_opposite {B : Nat} {SA : Nat → Nat} {h0 : Nat → Option JCell} (hs : CS B SA h0) : ∀ (v0 : Nat) (v1 : Int64) (C : CT) (r : Int64), CW B C → c_Real_opposite v0 v1 C = some r → g_Real_opposite v0 v1 (ovC C h0) = some r ∧ True := by
  intro v0 v1 C r hw h
  unfold c_Real_opposite at h
  unfold g_Real_opposite
  replace h := jgd_of h; obtain ⟨hb, h⟩ := h; refine jgd_go (c_job hb) ?_
  replace h := obd_of h; obtain ⟨x1, hx1, h⟩ := h; refine obd_go (t_Real_negative hs _ _ _ _ hw hx1).1 ?_
  obtain rfl := Option.some.inj h; exact ⟨rfl, trivial⟩
set_option maxRecDepth 10000 in
set_option maxHeartbeats 4000000 in
theorem t_Section_lessTimes {B : Nat} {SA : Nat → Nat} {h0 : Nat → Option JCell} (hs : CS B SA h0) : ∀ (v0 : Nat) (v1 : Int32) (v2 : Int64) (C : CT) (r : Int64), CW B C → c_Section_lessTimes v0 v1 v2 C = some r → g_Section_lessTimes v0 v1 v2 (ovC C h0) = some r ∧ True := by
  intro v0 v1 v2 C r hw h
  unfold c_Section_lessTimes at h
  unfold g_Section_lessTimes
  replace h := obd_of h; obtain ⟨x1, hx1, h⟩ := h
  refine obd_go (cg_A rfl hx1) ?_
  replace h := obd_of h; obtain ⟨x2, hx2, h⟩ := h
  refine obd_go (cg_A rfl hx2) ?_
  replace h := jgd_of h; obtain ⟨hb, h⟩ := h; refine jgd_go (c_job hb) ?_
  replace h := obd_of h; obtain ⟨x3, hx3, h⟩ := h; refine obd_go (t_Section_factor hs _ _ _ _ hw hx3).1 ?_
  replace h := obd_of h; obtain ⟨a4, rfl, h⟩ := h; refine obd_go rfl ?_
  replace h := obd_of h; obtain ⟨x5, hx5, h⟩ := h
  refine obd_go (y := x5) ?_ ?_
  · rcases ite_or hx5 with ⟨hb, hx⟩ | ⟨hb0, hx⟩
    · rw [if_pos (c_job hb)]; exact (t_Real_product hs _ _ _ _ _ hw hx).1
    · obtain ⟨hb, hx⟩ := jgd_of hx; rw [if_neg (c_job_ne hb (by decide)), c_job hb]; exact hx
  replace h := obd_of h; obtain ⟨a6, rfl, h⟩ := h; refine obd_go rfl ?_
  replace h := obd_of h; obtain ⟨x7, hx7, h⟩ := h
  refine obd_go (y := x7) ?_ ?_
  · rcases ite_or hx7 with ⟨hb, hx⟩ | ⟨hb0, hx⟩
    · rw [if_pos (c_job hb)]; exact (t_Real_opposite hs _ _ _ _ hw hx).1
    · obtain ⟨hb, hx⟩ := jgd_of hx; rw [if_neg (c_job_ne hb (by decide)), c_job hb]; exact hx
  obtain rfl := Option.some.inj h; exact ⟨rfl, trivial⟩
set_option maxRecDepth 10000 in
set_option maxHeartbeats 4000000 in
theorem t_Section_direct {B : Nat} {SA : Nat → Nat} {h0 : Nat → Option JCell} (hs : CS B SA h0) : ∀ (v0 : Nat) (v1 : Int64) (C : CT) (r : Int64) (C9 : CT), CW B C → c_Section_direct v0 v1 C = some (r, C9) → g_Section_direct B v0 v1 (ovC C h0, ck C) = some (r, (ovC C9 h0, ck C9)) ∧ CW B C9 := by
  intro v0 v1 C r C9 hw h
  unfold c_Section_direct at h
  unfold g_Section_direct
  replace h := obd_of h; obtain ⟨x1, hx1, h⟩ := h
  refine obd_go (cg_A rfl hx1) ?_
  replace h := jgd_of h; obtain ⟨hb, h⟩ := h; refine jgd_go (c_job hb) ?_
  replace h := obd_of h; obtain ⟨x2, hx2, h⟩ := h; refine obd_go (t_Section_times hs _ _ _ _ _ hw hx2).1 ?_
  replace h := obd_of h; obtain ⟨x3, hx3, h⟩ := h
  refine obd_go (cg_A rfl hx3) ?_
  replace h := obd_of h; obtain ⟨a4, rfl, h⟩ := h; refine obd_go rfl ?_
  replace h := jgd_of h; obtain ⟨hb, h⟩ := h; refine jgd_go (c_job hb) ?_
  replace h := obd_of h; obtain ⟨x5, hx5, h⟩ := h; refine obd_go (t_Row_at hs _ _ _ _ hw hx5).1 ?_
  replace h := jgd_of h; obtain ⟨hb, h⟩ := h; refine jgd_go (c_job hb) ?_
  replace h := obd_of h; obtain ⟨x6, hx6, h⟩ := h; refine obd_go (t_Section_times hs _ _ _ _ _ hw hx6).1 ?_
  replace h := obd_of h; obtain ⟨a7, rfl, h⟩ := h; refine obd_go rfl ?_
  replace h := obd_of h; obtain ⟨x8, hx8, h⟩ := h
  refine obd_go (y := x8) ?_ ?_
  · rcases ite_or hx8 with ⟨hb, hx⟩ | ⟨hb0, hx⟩
    · rw [if_pos (c_job hb)]; exact (t_Real_plus hs _ _ _ _ _ hw hx).1
    · obtain ⟨hb, hx⟩ := jgd_of hx; rw [if_neg (c_job_ne hb (by decide)), c_job hb]; exact hx
  replace h := obd_of h; obtain ⟨x9, hx9, h⟩ := h
  refine obd_go (cg_A rfl hx9) ?_
  replace h := obd_of h; obtain ⟨x10, hx10, h⟩ := h
  refine obd_go (cg_A rfl hx10) ?_
  replace h := obd_of h; obtain ⟨a11, rfl, h⟩ := h; refine obd_go rfl ?_
  replace h := jgd_of h; obtain ⟨hb, h⟩ := h; refine jgd_go (c_job hb) ?_
  replace h := obd_of h; obtain ⟨x12, hx12, h⟩ := h; refine obd_go (t_Row_at hs _ _ _ _ hw hx12).1 ?_
  replace h := jgd_of h; obtain ⟨hb, h⟩ := h; refine jgd_go (c_job hb) ?_
  replace h := obd_of h; obtain ⟨x13, hx13, h⟩ := h; refine obd_go (t_Section_times hs _ _ _ _ _ hw hx13).1 ?_
  replace h := obd_of h; obtain ⟨a14, rfl, h⟩ := h; refine obd_go rfl ?_
  replace h := obd_of h; obtain ⟨x15, hx15, h⟩ := h
  refine obd_go (y := x15) ?_ ?_
  · rcases ite_or hx15 with ⟨hb, hx⟩ | ⟨hb0, hx⟩
    · rw [if_pos (c_job hb)]; exact (t_Real_plus hs _ _ _ _ _ hw hx).1
    · obtain ⟨hb, hx⟩ := jgd_of hx; rw [if_neg (c_job_ne hb (by decide)), c_job hb]; exact hx
  replace h := obd_of h; obtain ⟨x16, hx16, h⟩ := h
  refine obd_go (cg_A rfl hx16) ?_
  replace h := obd_of h; obtain ⟨x17, hx17, h⟩ := h
  refine obd_go (cg_A rfl hx17) ?_
  replace h := obd_of h; obtain ⟨a18, rfl, h⟩ := h; refine obd_go rfl ?_
  replace h := jgd_of h; obtain ⟨hb, h⟩ := h; refine jgd_go (c_job hb) ?_
  replace h := obd_of h; obtain ⟨x19, hx19, h⟩ := h; refine obd_go (t_Row_at hs _ _ _ _ hw hx19).1 ?_
  replace h := jgd_of h; obtain ⟨hb, h⟩ := h; refine jgd_go (c_job hb) ?_
  replace h := obd_of h; obtain ⟨x20, hx20, h⟩ := h; refine obd_go (t_Section_lessTimes hs _ _ _ _ _ hw hx20).1 ?_
  replace h := obd_of h; obtain ⟨a21, rfl, h⟩ := h; refine obd_go rfl ?_
  replace h := obd_of h; obtain ⟨x22, hx22, h⟩ := h
  refine obd_go (y := x22) ?_ ?_
  · rcases ite_or hx22 with ⟨hb, hx⟩ | ⟨hb0, hx⟩
    · rw [if_pos (c_job hb)]; exact (t_Real_plus hs _ _ _ _ _ hw hx).1
    · obtain ⟨hb, hx⟩ := jgd_of hx; rw [if_neg (c_job_ne hb (by decide)), c_job hb]; exact hx
  replace h := obd_of h; obtain ⟨x23, hx23, h⟩ := h
  refine obd_go (cg_A rfl hx23) ?_
  replace h := obd_of h; obtain ⟨x24, hx24, h⟩ := h
  refine obd_go (cg_A rfl hx24) ?_
  replace h := obd_of h; obtain ⟨a25, rfl, h⟩ := h; refine obd_go rfl ?_
  replace h := jgd_of h; obtain ⟨hb, h⟩ := h; refine jgd_go (c_job hb) ?_
  replace h := obd_of h; obtain ⟨x26, hx26, h⟩ := h; refine obd_go (t_Row_at hs _ _ _ _ hw hx26).1 ?_
  replace h := jgd_of h; obtain ⟨hb, h⟩ := h; refine jgd_go (c_job hb) ?_
  replace h := obd_of h; obtain ⟨x27, hx27, h⟩ := h; refine obd_go (t_Section_lessTimes hs _ _ _ _ _ hw hx27).1 ?_
  replace h := obd_of h; obtain ⟨a28, rfl, h⟩ := h; refine obd_go rfl ?_
  replace h := obd_of h; obtain ⟨x29, hx29, h⟩ := h
  refine obd_go (y := x29) ?_ ?_
  · rcases ite_or hx29 with ⟨hb, hx⟩ | ⟨hb0, hx⟩
    · rw [if_pos (c_job hb)]; exact (t_Real_plus hs _ _ _ _ _ hw hx).1
    · obtain ⟨hb, hx⟩ := jgd_of hx; rw [if_neg (c_job_ne hb (by decide)), c_job hb]; exact hx
  replace h := jgd_of h; obtain ⟨hb, h⟩ := h; refine jgd_go (c_job hb) ?_
  replace h := cbd2_of h; obtain ⟨x30, C31, hx30, h⟩ := h; have hq := (t_Section_settled hs _ _ _ _ _ hw hx30); refine jbd2_go hq.1 ?_; replace hw := hq.2
  replace h := obd_of h; obtain ⟨x32, hx32, h⟩ := h
  refine obd_go (cg_A rfl hx32) ?_
  replace h := obd_of h; obtain ⟨x33, hx33, h⟩ := h
  refine obd_go (cg_A rfl hx33) ?_
  replace h := obd_of h; obtain ⟨a34, rfl, h⟩ := h; refine obd_go rfl ?_
  replace h := jgd_of h; obtain ⟨hb, h⟩ := h; refine jgd_go (c_job hb) ?_
  replace h := obd_of h; obtain ⟨x35, hx35, h⟩ := h; refine obd_go (t_Row_at hs _ _ _ _ hw hx35).1 ?_
  replace h := obd_of h; obtain ⟨a36, rfl, h⟩ := h; refine obd_go rfl ?_
  replace h := jgd_of h; obtain ⟨hb, h⟩ := h; refine jgd_go (c_job hb) ?_
  replace h := obd_of h; obtain ⟨C37, hC37, h⟩ := h; have hq := (t_Row_put hs _ _ _ _ _ hw hC37); refine obd_go hq.1 ?_; replace hw := hq.2
  replace h := obd_of h; obtain ⟨x38, hx38, h⟩ := h
  refine obd_go (cg_A rfl hx38) ?_
  replace h := obd_of h; obtain ⟨a39, rfl, h⟩ := h; refine obd_go rfl ?_
  replace h := jgd_of h; obtain ⟨hb, h⟩ := h; refine jgd_go (c_job hb) ?_
  replace h := obd_of h; obtain ⟨C40, hC40, h⟩ := h; have hq := (t_Row_put hs _ _ _ _ _ hw hC40); refine obd_go hq.1 ?_; replace hw := hq.2
  replace h := obd_of h; obtain ⟨x41, hx41, h⟩ := h
  refine obd_go (cg_A rfl hx41) ?_
  replace h := obd_of h; obtain ⟨x42, hx42, h⟩ := h
  refine obd_go (cg_A rfl hx42) ?_
  replace h := obd_of h; obtain ⟨a43, rfl, h⟩ := h; refine obd_go rfl ?_
  replace h := jgd_of h; obtain ⟨hb, h⟩ := h; refine jgd_go (c_job hb) ?_
  replace h := obd_of h; obtain ⟨x44, hx44, h⟩ := h; refine obd_go (t_Row_at hs _ _ _ _ hw hx44).1 ?_
  replace h := obd_of h; obtain ⟨a45, rfl, h⟩ := h; refine obd_go rfl ?_
  replace h := jgd_of h; obtain ⟨hb, h⟩ := h; refine jgd_go (c_job hb) ?_
  replace h := obd_of h; obtain ⟨C46, hC46, h⟩ := h; have hq := (t_Row_put hs _ _ _ _ _ hw hC46); refine obd_go hq.1 ?_; replace hw := hq.2
  replace h := obd_of h; obtain ⟨x47, hx47, h⟩ := h
  refine obd_go (cg_A rfl hx47) ?_
  replace h := obd_of h; obtain ⟨a48, rfl, h⟩ := h; refine obd_go rfl ?_
  replace h := jgd_of h; obtain ⟨hb, h⟩ := h; refine jgd_go (c_job hb) ?_
  replace h := obd_of h; obtain ⟨C49, hC49, h⟩ := h; have hq := (t_Row_put hs _ _ _ _ _ hw hC49); refine obd_go hq.1 ?_; replace hw := hq.2
  obtain ⟨rfl, rfl⟩ := Prod.mk.inj (Option.some.inj h); exact ⟨rfl, hw⟩
set_option maxRecDepth 10000 in
set_option maxHeartbeats 4000000 in
theorem t_Row_size {B : Nat} {SA : Nat → Nat} {h0 : Nat → Option JCell} (hs : CS B SA h0) : ∀ (v0 : Nat) (C : CT) (r : Int32), CW B C → c_Row_size v0 C = some r → g_Row_size v0 (ovC C h0) = some r ∧ True := by
  intro v0 C r hw h
  unfold c_Row_size at h
  unfold g_Row_size
  replace h := obd_of h; obtain ⟨x1, hx1, h⟩ := h
  refine obd_go (cg_A rfl hx1) ?_
  replace h := obd_of h; obtain ⟨a2, rfl, h⟩ := h; refine obd_go rfl ?_
  replace h := obd_of h; obtain ⟨x3, hx3, h⟩ := h
  refine obd_go (ca_len hx3) ?_
  obtain rfl := Option.some.inj h; exact ⟨rfl, trivial⟩
set_option maxRecDepth 10000 in
set_option maxHeartbeats 4000000 in
theorem t_Section_mean_27 {N : Nat} {B : Nat} {SA : Nat → Nat} {h0 : Nat → Option JCell} (hs : CS B SA h0) : ∀ (n : Nat), ∀ (v0 : Nat) (v3 : Int64) (v5 : Int32) (C : CT) (r : Int64) (C9 : CT), CW B C → c_Section_mean_27 N n v0 v3 v5 C = some (r, C9) → g_Section_mean_27 N B n v0 v3 v5 (ovC C h0, ck C) = some (r, (ovC C9 h0, ck C9)) ∧ CW B C9 := by
  intro n
  induction n with
  | zero =>
    intro v0 v3 v5 C r C9 hw h
    unfold c_Section_mean_27 at h
    cases h
  | succ n ih =>
    intro v0 v3 v5 C r C9 hw h
    unfold c_Section_mean_27 at h
    unfold g_Section_mean_27
    replace h := obd_of h; obtain ⟨x1, hx1, h⟩ := h
    refine obd_go (cg_A rfl hx1) ?_
    replace h := obd_of h; obtain ⟨a2, rfl, h⟩ := h; refine obd_go rfl ?_
    replace h := jgd_of h; obtain ⟨hb, h⟩ := h; refine jgd_go (c_job hb) ?_
    replace h := obd_of h; obtain ⟨x3, hx3, h⟩ := h; refine obd_go (t_Row_size hs _ _ _ hw hx3).1 ?_
    replace h := ite_or h; rcases h with ⟨hc, h⟩ | ⟨hc, h⟩
    · refine ite_goT hc ?_
      replace h := jgd_of h; obtain ⟨hb, h⟩ := h; refine jgd_go (c_job hb) ?_
      replace h := cbd2_of h; obtain ⟨x4, C5, hx4, h⟩ := h; have hq := (t_Section_settled hs _ _ _ _ _ hw hx4); refine jbd2_go hq.1 ?_; replace hw := hq.2
      replace h := jgd_of h; obtain ⟨hb, h⟩ := h; refine jgd_go (c_job hb) ?_
      replace h := obd_of h; obtain ⟨x6, hx6, h⟩ := h; refine obd_go (t_Section_times hs _ _ _ _ _ hw hx6).1 ?_
      replace h := jgd_of h; obtain ⟨hb, h⟩ := h; refine jgd_go (c_job hb) ?_
      replace h := cbd2_of h; obtain ⟨x7, C8, hx7, h⟩ := h; have hq := (t_Section_settled hs _ _ _ _ _ hw hx7); refine jbd2_go hq.1 ?_; replace hw := hq.2
      obtain ⟨rfl, rfl⟩ := Prod.mk.inj (Option.some.inj h); exact ⟨rfl, hw⟩
    · refine ite_goF hc ?_
      replace h := obd_of h; obtain ⟨x9, hx9, h⟩ := h
      refine obd_go (cg_A rfl hx9) ?_
      replace h := obd_of h; obtain ⟨x10, hx10, h⟩ := h
      refine obd_go (cg_A rfl hx10) ?_
      replace h := obd_of h; obtain ⟨x11, hx11, h⟩ := h
      refine obd_go (cg_A rfl hx11) ?_
      replace h := obd_of h; obtain ⟨a12, rfl, h⟩ := h; refine obd_go rfl ?_
      replace h := jgd_of h; obtain ⟨hb, h⟩ := h; refine jgd_go (c_job hb) ?_
      replace h := obd_of h; obtain ⟨x13, hx13, h⟩ := h; refine obd_go (t_Row_at hs _ _ _ _ hw hx13).1 ?_
      replace h := obd_of h; obtain ⟨a14, rfl, h⟩ := h; refine obd_go rfl ?_
      replace h := obd_of h; obtain ⟨x15, hx15, h⟩ := h
      refine obd_go (y := x15) ?_ ?_
      · rcases ite_or hx15 with ⟨hb, hx⟩ | ⟨hb0, hx⟩
        · rw [if_pos (c_job hb)]; exact hx
        · obtain ⟨hb, hx⟩ := jgd_of hx; rw [if_neg (c_job_ne hb (by decide)), c_job hb]; exact hx
      replace h := obd_of h; obtain ⟨a16, rfl, h⟩ := h; refine obd_go rfl ?_
      replace h := obd_of h; obtain ⟨x17, hx17, h⟩ := h
      refine obd_go (y := x17) ?_ ?_
      · rcases ite_or hx17 with ⟨hb, hx⟩ | ⟨hb0, hx⟩
        · rw [if_pos (c_job hb)]; exact (t_Real_plus hs _ _ _ _ _ hw hx).1
        · obtain ⟨hb, hx⟩ := jgd_of hx; rw [if_neg (c_job_ne hb (by decide)), c_job hb]; exact hx
      exact ih _ _ _ _ _ _ hw h
set_option maxRecDepth 10000 in
set_option maxHeartbeats 4000000 in
theorem t_Section_mean {N : Nat} {B : Nat} {SA : Nat → Nat} {h0 : Nat → Option JCell} (hs : CS B SA h0) : ∀ (v0 : Nat) (v1 : Int64) (C : CT) (r : Int64) (C9 : CT), CW B C → c_Section_mean N v0 v1 C = some (r, C9) → g_Section_mean N B v0 v1 (ovC C h0, ck C) = some (r, (ovC C9 h0, ck C9)) ∧ CW B C9 := by
  intro v0 v1 C r C9 hw h
  unfold c_Section_mean at h
  unfold g_Section_mean
  replace h := obd_of h; obtain ⟨x1, hx1, h⟩ := h
  refine obd_go (cg_A rfl hx1) ?_
  replace h := obd_of h; obtain ⟨a2, rfl, h⟩ := h; refine obd_go rfl ?_
  replace h := jgd_of h; obtain ⟨hb, h⟩ := h; refine jgd_go (c_job hb) ?_
  replace h := obd_of h; obtain ⟨C3, hC3, h⟩ := h; have hq := (t_Row_push hs _ _ _ _ hw hC3); refine obd_go hq.1 ?_; replace hw := hq.2
  replace h := obd_of h; obtain ⟨x4, hx4, h⟩ := h
  refine obd_go (cg_A rfl hx4) ?_
  replace h := obd_of h; obtain ⟨x5, hx5, h⟩ := h
  refine obd_go (cg_A rfl hx5) ?_
  replace h := obd_of h; obtain ⟨a6, rfl, h⟩ := h; refine obd_go rfl ?_
  replace h := jgd_of h; obtain ⟨hb, h⟩ := h; refine jgd_go (c_job hb) ?_
  replace h := obd_of h; obtain ⟨x7, hx7, h⟩ := h; refine obd_go (t_Row_at hs _ _ _ _ hw hx7).1 ?_
  replace h := obd_of h; obtain ⟨a8, rfl, h⟩ := h; refine obd_go rfl ?_
  replace h := obd_of h; obtain ⟨x9, hx9, h⟩ := h
  refine obd_go (y := x9) ?_ ?_
  · rcases ite_or hx9 with ⟨hb, hx⟩ | ⟨hb0, hx⟩
    · rw [if_pos (c_job hb)]; exact hx
    · obtain ⟨hb, hx⟩ := jgd_of hx; rw [if_neg (c_job_ne hb (by decide)), c_job hb]; exact hx
  exact t_Section_mean_27 hs _ _ _ _ _ _ _ hw h
set_option maxRecDepth 10000 in
set_option maxHeartbeats 4000000 in
theorem t_Section_pass {B : Nat} {SA : Nat → Nat} {h0 : Nat → Option JCell} (hs : CS B SA h0) : ∀ (v0 : Nat) (v1 : Int64) (C : CT) (r : Int64) (C9 : CT), CW B C → c_Section_pass v0 v1 C = some (r, C9) → g_Section_pass B v0 v1 (ovC C h0, ck C) = some (r, (ovC C9 h0, ck C9)) ∧ CW B C9 := by
  intro v0 v1 C r C9 hw h
  unfold c_Section_pass at h
  unfold g_Section_pass
  replace h := obd_of h; obtain ⟨x1, hx1, h⟩ := h
  refine obd_go (cg_A rfl hx1) ?_
  replace h := obd_of h; obtain ⟨a2, rfl, h⟩ := h; refine obd_go rfl ?_
  replace h := jgd_of h; obtain ⟨hb, h⟩ := h; refine jgd_go (c_job hb) ?_
  replace h := obd_of h; obtain ⟨x3, hx3, h⟩ := h; refine obd_go (t_Row_at hs _ _ _ _ hw hx3).1 ?_
  replace h := obd_of h; obtain ⟨x4, hx4, h⟩ := h
  refine obd_go (cg_A rfl hx4) ?_
  replace h := obd_of h; obtain ⟨x5, hx5, h⟩ := h
  refine obd_go (cg_A rfl hx5) ?_
  replace h := obd_of h; obtain ⟨a6, rfl, h⟩ := h; refine obd_go rfl ?_
  replace h := obd_of h; obtain ⟨x7, hx7, h⟩ := h
  refine obd_go (y := x7) ?_ ?_
  · rcases ite_or hx7 with ⟨hb, hx⟩ | ⟨hb0, hx⟩
    · rw [if_pos (c_job hb)]; exact hx
    · obtain ⟨hb, hx⟩ := jgd_of hx; rw [if_neg (c_job_ne hb (by decide)), c_job hb]; exact hx
  replace h := jgd_of h; obtain ⟨hb, h⟩ := h; refine jgd_go (c_job hb) ?_
  replace h := obd_of h; obtain ⟨x8, hx8, h⟩ := h; refine obd_go (t_Section_lessTimes hs _ _ _ _ _ hw hx8).1 ?_
  replace h := obd_of h; obtain ⟨a9, rfl, h⟩ := h; refine obd_go rfl ?_
  replace h := obd_of h; obtain ⟨x10, hx10, h⟩ := h
  refine obd_go (y := x10) ?_ ?_
  · rcases ite_or hx10 with ⟨hb, hx⟩ | ⟨hb0, hx⟩
    · rw [if_pos (c_job hb)]; exact (t_Real_plus hs _ _ _ _ _ hw hx).1
    · obtain ⟨hb, hx⟩ := jgd_of hx; rw [if_neg (c_job_ne hb (by decide)), c_job hb]; exact hx
  replace h := jgd_of h; obtain ⟨hb, h⟩ := h; refine jgd_go (c_job hb) ?_
  replace h := cbd2_of h; obtain ⟨x11, C12, hx11, h⟩ := h; have hq := (t_Section_settled hs _ _ _ _ _ hw hx11); refine jbd2_go hq.1 ?_; replace hw := hq.2
  replace h := obd_of h; obtain ⟨x13, hx13, h⟩ := h
  refine obd_go (cg_A rfl hx13) ?_
  replace h := jgd_of h; obtain ⟨hb, h⟩ := h; refine jgd_go (c_job hb) ?_
  replace h := obd_of h; obtain ⟨x14, hx14, h⟩ := h; refine obd_go (t_Section_times hs _ _ _ _ _ hw hx14).1 ?_
  replace h := obd_of h; obtain ⟨x15, hx15, h⟩ := h
  refine obd_go (cg_A rfl hx15) ?_
  replace h := obd_of h; obtain ⟨a16, rfl, h⟩ := h; refine obd_go rfl ?_
  replace h := obd_of h; obtain ⟨x17, hx17, h⟩ := h
  refine obd_go (y := x17) ?_ ?_
  · rcases ite_or hx17 with ⟨hb, hx⟩ | ⟨hb0, hx⟩
    · rw [if_pos (c_job hb)]; exact hx
    · obtain ⟨hb, hx⟩ := jgd_of hx; rw [if_neg (c_job_ne hb (by decide)), c_job hb]; exact hx
  replace h := obd_of h; obtain ⟨a18, rfl, h⟩ := h; refine obd_go rfl ?_
  replace h := obd_of h; obtain ⟨x19, hx19, h⟩ := h
  refine obd_go (y := x19) ?_ ?_
  · rcases ite_or hx19 with ⟨hb, hx⟩ | ⟨hb0, hx⟩
    · rw [if_pos (c_job hb)]; exact (t_Real_plus hs _ _ _ _ _ hw hx).1
    · obtain ⟨hb, hx⟩ := jgd_of hx; rw [if_neg (c_job_ne hb (by decide)), c_job hb]; exact hx
  replace h := jgd_of h; obtain ⟨hb, h⟩ := h; refine jgd_go (c_job hb) ?_
  replace h := cbd2_of h; obtain ⟨x20, C21, hx20, h⟩ := h; have hq := (t_Section_settled hs _ _ _ _ _ hw hx20); refine jbd2_go hq.1 ?_; replace hw := hq.2
  replace h := obd_of h; obtain ⟨x22, hx22, h⟩ := h
  refine obd_go (cg_A rfl hx22) ?_
  replace h := obd_of h; obtain ⟨a23, rfl, h⟩ := h; refine obd_go rfl ?_
  replace h := jgd_of h; obtain ⟨hb, h⟩ := h; refine jgd_go (c_job hb) ?_
  replace h := obd_of h; obtain ⟨C24, hC24, h⟩ := h; have hq := (t_Row_put hs _ _ _ _ _ hw hC24); refine obd_go hq.1 ?_; replace hw := hq.2
  obtain ⟨rfl, rfl⟩ := Prod.mk.inj (Option.some.inj h); exact ⟨rfl, hw⟩
set_option maxRecDepth 10000 in
set_option maxHeartbeats 4000000 in
theorem t_Section_peak_47 {B : Nat} {SA : Nat → Nat} {h0 : Nat → Option JCell} (hs : CS B SA h0) : ∀ (v0 : Nat) (s0 : Int64) (C : CT) (r : Int64) (C9 : CT), CW B C → c_Section_peak_47 v0 s0 C = some (r, C9) → g_Section_peak_47 B v0 s0 (ovC C h0, ck C) = some (r, (ovC C9 h0, ck C9)) ∧ CW B C9 := by
  intro v0 s0 C r C9 hw h
  unfold c_Section_peak_47 at h
  unfold g_Section_peak_47
  replace h := obd_of h; obtain ⟨x1, hx1, h⟩ := h
  refine obd_go (cg_A rfl hx1) ?_
  replace h := obd_of h; obtain ⟨a2, rfl, h⟩ := h; refine obd_go rfl ?_
  replace h := jgd_of h; obtain ⟨hb, h⟩ := h; refine jgd_go (c_job hb) ?_
  replace h := obd_of h; obtain ⟨C3, hC3, h⟩ := h; have hq := (t_Row_put hs _ _ _ _ _ hw hC3); refine obd_go hq.1 ?_; replace hw := hq.2
  obtain ⟨rfl, rfl⟩ := Prod.mk.inj (Option.some.inj h); exact ⟨rfl, hw⟩
set_option maxRecDepth 10000 in
set_option maxHeartbeats 4000000 in
theorem t_Section_peak {B : Nat} {SA : Nat → Nat} {h0 : Nat → Option JCell} (hs : CS B SA h0) : ∀ (v0 : Nat) (v1 : Int64) (C : CT) (r : Int64) (C9 : CT), CW B C → c_Section_peak v0 v1 C = some (r, C9) → g_Section_peak B v0 v1 (ovC C h0, ck C) = some (r, (ovC C9 h0, ck C9)) ∧ CW B C9 := by
  intro v0 v1 C r C9 hw h
  unfold c_Section_peak at h
  unfold g_Section_peak
  replace h := obd_of h; obtain ⟨x1, hx1, h⟩ := h
  refine obd_go (cg_A rfl hx1) ?_
  replace h := obd_of h; obtain ⟨a2, rfl, h⟩ := h; refine obd_go rfl ?_
  replace h := obd_of h; obtain ⟨x3, hx3, h⟩ := h
  refine obd_go (y := x3) ?_ ?_
  · rcases ite_or hx3 with ⟨hb, hx⟩ | ⟨hb0, hx⟩
    · rw [if_pos (c_job hb)]; exact (t_Real_sizeOf hs _ _ _ _ hw hx).1
    · obtain ⟨hb, hx⟩ := jgd_of hx; rw [if_neg (c_job_ne hb (by decide)), c_job hb]; exact (t_Shorts_sizeOf hs _ _ _ _ hw hx).1
  replace h := obd_of h; obtain ⟨x4, hx4, h⟩ := h
  refine obd_go (cg_A rfl hx4) ?_
  replace h := obd_of h; obtain ⟨a5, rfl, h⟩ := h; refine obd_go rfl ?_
  replace h := jgd_of h; obtain ⟨hb, h⟩ := h; refine jgd_go (c_job hb) ?_
  replace h := obd_of h; obtain ⟨x6, hx6, h⟩ := h; refine obd_go (t_Row_at hs _ _ _ _ hw hx6).1 ?_
  replace h := obd_of h; obtain ⟨x7, hx7, h⟩ := h
  refine obd_go (cg_A rfl hx7) ?_
  replace h := obd_of h; obtain ⟨a8, rfl, h⟩ := h; refine obd_go rfl ?_
  replace h := obd_of h; obtain ⟨x9, hx9, h⟩ := h
  refine obd_go (y := x9) ?_ ?_
  · rcases ite_or hx9 with ⟨hb, hx⟩ | ⟨hb0, hx⟩
    · rw [if_pos (c_job hb)]; exact (t_Numbers_above hs _ _ _ _ _ hw hx).1
    · obtain ⟨hb, hx⟩ := jgd_of hx; rw [if_neg (c_job_ne hb (by decide)), c_job hb]; exact (t_Numbers_above hs _ _ _ _ _ hw hx).1
  replace h := ite_or h; rcases h with ⟨hc, h⟩ | ⟨hc, h⟩
  · refine ite_goT hc ?_
    exact t_Section_peak_47 hs _ _ _ _ _ hw h
  · refine ite_goF hc ?_
    replace h := jgd_of h; obtain ⟨hb, h⟩ := h; refine jgd_go (c_job hb) ?_
    replace h := obd_of h; obtain ⟨x10, hx10, h⟩ := h; refine obd_go (t_Section_times hs _ _ _ _ _ hw hx10).1 ?_
    replace h := jgd_of h; obtain ⟨hb, h⟩ := h; refine jgd_go (c_job hb) ?_
    replace h := cbd2_of h; obtain ⟨x11, C12, hx11, h⟩ := h; have hq := (t_Section_settled hs _ _ _ _ _ hw hx11); refine jbd2_go hq.1 ?_; replace hw := hq.2
    exact t_Section_peak_47 hs _ _ _ _ _ hw h
set_option maxRecDepth 10000 in
set_option maxHeartbeats 4000000 in
theorem t_Section_pole {B : Nat} {SA : Nat → Nat} {h0 : Nat → Option JCell} (hs : CS B SA h0) : ∀ (v0 : Nat) (v1 : Int64) (C : CT) (r : Int64) (C9 : CT), CW B C → c_Section_pole v0 v1 C = some (r, C9) → g_Section_pole B v0 v1 (ovC C h0, ck C) = some (r, (ovC C9 h0, ck C9)) ∧ CW B C9 := by
  intro v0 v1 C r C9 hw h
  unfold c_Section_pole at h
  unfold g_Section_pole
  replace h := obd_of h; obtain ⟨x1, hx1, h⟩ := h
  refine obd_go (cg_A rfl hx1) ?_
  replace h := jgd_of h; obtain ⟨hb, h⟩ := h; refine jgd_go (c_job hb) ?_
  replace h := obd_of h; obtain ⟨x2, hx2, h⟩ := h; refine obd_go (t_Section_times hs _ _ _ _ _ hw hx2).1 ?_
  replace h := obd_of h; obtain ⟨x3, hx3, h⟩ := h
  refine obd_go (cg_A rfl hx3) ?_
  replace h := obd_of h; obtain ⟨a4, rfl, h⟩ := h; refine obd_go rfl ?_
  replace h := jgd_of h; obtain ⟨hb, h⟩ := h; refine jgd_go (c_job hb) ?_
  replace h := obd_of h; obtain ⟨x5, hx5, h⟩ := h; refine obd_go (t_Row_at hs _ _ _ _ hw hx5).1 ?_
  replace h := jgd_of h; obtain ⟨hb, h⟩ := h; refine jgd_go (c_job hb) ?_
  replace h := obd_of h; obtain ⟨x6, hx6, h⟩ := h; refine obd_go (t_Section_times hs _ _ _ _ _ hw hx6).1 ?_
  replace h := obd_of h; obtain ⟨a7, rfl, h⟩ := h; refine obd_go rfl ?_
  replace h := obd_of h; obtain ⟨x8, hx8, h⟩ := h
  refine obd_go (y := x8) ?_ ?_
  · rcases ite_or hx8 with ⟨hb, hx⟩ | ⟨hb0, hx⟩
    · rw [if_pos (c_job hb)]; exact (t_Real_plus hs _ _ _ _ _ hw hx).1
    · obtain ⟨hb, hx⟩ := jgd_of hx; rw [if_neg (c_job_ne hb (by decide)), c_job hb]; exact hx
  replace h := jgd_of h; obtain ⟨hb, h⟩ := h; refine jgd_go (c_job hb) ?_
  replace h := cbd2_of h; obtain ⟨x9, C10, hx9, h⟩ := h; have hq := (t_Section_settled hs _ _ _ _ _ hw hx9); refine jbd2_go hq.1 ?_; replace hw := hq.2
  replace h := obd_of h; obtain ⟨x11, hx11, h⟩ := h
  refine obd_go (cg_A rfl hx11) ?_
  replace h := obd_of h; obtain ⟨a12, rfl, h⟩ := h; refine obd_go rfl ?_
  replace h := jgd_of h; obtain ⟨hb, h⟩ := h; refine jgd_go (c_job hb) ?_
  replace h := obd_of h; obtain ⟨C13, hC13, h⟩ := h; have hq := (t_Row_put hs _ _ _ _ _ hw hC13); refine obd_go hq.1 ?_; replace hw := hq.2
  obtain ⟨rfl, rfl⟩ := Prod.mk.inj (Option.some.inj h); exact ⟨rfl, hw⟩
set_option maxRecDepth 10000 in
set_option maxHeartbeats 4000000 in
theorem t_Section_second {B : Nat} {SA : Nat → Nat} {h0 : Nat → Option JCell} (hs : CS B SA h0) : ∀ (v0 : Nat) (v1 : Int64) (C : CT) (r : Int64) (C9 : CT), CW B C → c_Section_second v0 v1 C = some (r, C9) → g_Section_second B v0 v1 (ovC C h0, ck C) = some (r, (ovC C9 h0, ck C9)) ∧ CW B C9 := by
  intro v0 v1 C r C9 hw h
  unfold c_Section_second at h
  unfold g_Section_second
  replace h := obd_of h; obtain ⟨x1, hx1, h⟩ := h
  refine obd_go (cg_A rfl hx1) ?_
  replace h := obd_of h; obtain ⟨a2, rfl, h⟩ := h; refine obd_go rfl ?_
  replace h := jgd_of h; obtain ⟨hb, h⟩ := h; refine jgd_go (c_job hb) ?_
  replace h := obd_of h; obtain ⟨x3, hx3, h⟩ := h; refine obd_go (t_Row_at hs _ _ _ _ hw hx3).1 ?_
  replace h := obd_of h; obtain ⟨x4, hx4, h⟩ := h
  refine obd_go (cg_A rfl hx4) ?_
  replace h := obd_of h; obtain ⟨x5, hx5, h⟩ := h
  refine obd_go (cg_A rfl hx5) ?_
  replace h := obd_of h; obtain ⟨a6, rfl, h⟩ := h; refine obd_go rfl ?_
  replace h := obd_of h; obtain ⟨x7, hx7, h⟩ := h
  refine obd_go (y := x7) ?_ ?_
  · rcases ite_or hx7 with ⟨hb, hx⟩ | ⟨hb0, hx⟩
    · rw [if_pos (c_job hb)]; exact hx
    · obtain ⟨hb, hx⟩ := jgd_of hx; rw [if_neg (c_job_ne hb (by decide)), c_job hb]; exact hx
  replace h := jgd_of h; obtain ⟨hb, h⟩ := h; refine jgd_go (c_job hb) ?_
  replace h := obd_of h; obtain ⟨x8, hx8, h⟩ := h; refine obd_go (t_Section_lessTimes hs _ _ _ _ _ hw hx8).1 ?_
  replace h := obd_of h; obtain ⟨a9, rfl, h⟩ := h; refine obd_go rfl ?_
  replace h := obd_of h; obtain ⟨x10, hx10, h⟩ := h
  refine obd_go (y := x10) ?_ ?_
  · rcases ite_or hx10 with ⟨hb, hx⟩ | ⟨hb0, hx⟩
    · rw [if_pos (c_job hb)]; exact (t_Real_plus hs _ _ _ _ _ hw hx).1
    · obtain ⟨hb, hx⟩ := jgd_of hx; rw [if_neg (c_job_ne hb (by decide)), c_job hb]; exact hx
  replace h := obd_of h; obtain ⟨x11, hx11, h⟩ := h
  refine obd_go (cg_A rfl hx11) ?_
  replace h := obd_of h; obtain ⟨x12, hx12, h⟩ := h
  refine obd_go (cg_A rfl hx12) ?_
  replace h := obd_of h; obtain ⟨a13, rfl, h⟩ := h; refine obd_go rfl ?_
  replace h := jgd_of h; obtain ⟨hb, h⟩ := h; refine jgd_go (c_job hb) ?_
  replace h := obd_of h; obtain ⟨x14, hx14, h⟩ := h; refine obd_go (t_Row_at hs _ _ _ _ hw hx14).1 ?_
  replace h := jgd_of h; obtain ⟨hb, h⟩ := h; refine jgd_go (c_job hb) ?_
  replace h := obd_of h; obtain ⟨x15, hx15, h⟩ := h; refine obd_go (t_Section_lessTimes hs _ _ _ _ _ hw hx15).1 ?_
  replace h := obd_of h; obtain ⟨a16, rfl, h⟩ := h; refine obd_go rfl ?_
  replace h := obd_of h; obtain ⟨x17, hx17, h⟩ := h
  refine obd_go (y := x17) ?_ ?_
  · rcases ite_or hx17 with ⟨hb, hx⟩ | ⟨hb0, hx⟩
    · rw [if_pos (c_job hb)]; exact (t_Real_plus hs _ _ _ _ _ hw hx).1
    · obtain ⟨hb, hx⟩ := jgd_of hx; rw [if_neg (c_job_ne hb (by decide)), c_job hb]; exact hx
  replace h := jgd_of h; obtain ⟨hb, h⟩ := h; refine jgd_go (c_job hb) ?_
  replace h := cbd2_of h; obtain ⟨x18, C19, hx18, h⟩ := h; have hq := (t_Section_settled hs _ _ _ _ _ hw hx18); refine jbd2_go hq.1 ?_; replace hw := hq.2
  replace h := obd_of h; obtain ⟨x20, hx20, h⟩ := h
  refine obd_go (cg_A rfl hx20) ?_
  replace h := jgd_of h; obtain ⟨hb, h⟩ := h; refine jgd_go (c_job hb) ?_
  replace h := obd_of h; obtain ⟨x21, hx21, h⟩ := h; refine obd_go (t_Section_times hs _ _ _ _ _ hw hx21).1 ?_
  replace h := jgd_of h; obtain ⟨hb, h⟩ := h; refine jgd_go (c_job hb) ?_
  replace h := obd_of h; obtain ⟨x22, hx22, h⟩ := h; refine obd_go (t_Section_times hs _ _ _ _ _ hw hx22).1 ?_
  replace h := obd_of h; obtain ⟨a23, rfl, h⟩ := h; refine obd_go rfl ?_
  replace h := obd_of h; obtain ⟨x24, hx24, h⟩ := h
  refine obd_go (y := x24) ?_ ?_
  · rcases ite_or hx24 with ⟨hb, hx⟩ | ⟨hb0, hx⟩
    · rw [if_pos (c_job hb)]; exact (t_Real_plus hs _ _ _ _ _ hw hx).1
    · obtain ⟨hb, hx⟩ := jgd_of hx; rw [if_neg (c_job_ne hb (by decide)), c_job hb]; exact hx
  replace h := obd_of h; obtain ⟨x25, hx25, h⟩ := h
  refine obd_go (cg_A rfl hx25) ?_
  replace h := obd_of h; obtain ⟨x26, hx26, h⟩ := h
  refine obd_go (cg_A rfl hx26) ?_
  replace h := obd_of h; obtain ⟨a27, rfl, h⟩ := h; refine obd_go rfl ?_
  replace h := jgd_of h; obtain ⟨hb, h⟩ := h; refine jgd_go (c_job hb) ?_
  replace h := obd_of h; obtain ⟨x28, hx28, h⟩ := h; refine obd_go (t_Row_at hs _ _ _ _ hw hx28).1 ?_
  replace h := jgd_of h; obtain ⟨hb, h⟩ := h; refine jgd_go (c_job hb) ?_
  replace h := obd_of h; obtain ⟨x29, hx29, h⟩ := h; refine obd_go (t_Section_times hs _ _ _ _ _ hw hx29).1 ?_
  replace h := obd_of h; obtain ⟨a30, rfl, h⟩ := h; refine obd_go rfl ?_
  replace h := obd_of h; obtain ⟨x31, hx31, h⟩ := h
  refine obd_go (y := x31) ?_ ?_
  · rcases ite_or hx31 with ⟨hb, hx⟩ | ⟨hb0, hx⟩
    · rw [if_pos (c_job hb)]; exact (t_Real_plus hs _ _ _ _ _ hw hx).1
    · obtain ⟨hb, hx⟩ := jgd_of hx; rw [if_neg (c_job_ne hb (by decide)), c_job hb]; exact hx
  replace h := jgd_of h; obtain ⟨hb, h⟩ := h; refine jgd_go (c_job hb) ?_
  replace h := cbd2_of h; obtain ⟨x32, C33, hx32, h⟩ := h; have hq := (t_Section_settled hs _ _ _ _ _ hw hx32); refine jbd2_go hq.1 ?_; replace hw := hq.2
  replace h := obd_of h; obtain ⟨x34, hx34, h⟩ := h
  refine obd_go (cg_A rfl hx34) ?_
  replace h := obd_of h; obtain ⟨a35, rfl, h⟩ := h; refine obd_go rfl ?_
  replace h := jgd_of h; obtain ⟨hb, h⟩ := h; refine jgd_go (c_job hb) ?_
  replace h := obd_of h; obtain ⟨C36, hC36, h⟩ := h; have hq := (t_Row_put hs _ _ _ _ _ hw hC36); refine obd_go hq.1 ?_; replace hw := hq.2
  replace h := obd_of h; obtain ⟨x37, hx37, h⟩ := h
  refine obd_go (cg_A rfl hx37) ?_
  replace h := obd_of h; obtain ⟨a38, rfl, h⟩ := h; refine obd_go rfl ?_
  replace h := jgd_of h; obtain ⟨hb, h⟩ := h; refine jgd_go (c_job hb) ?_
  replace h := obd_of h; obtain ⟨C39, hC39, h⟩ := h; have hq := (t_Row_put hs _ _ _ _ _ hw hC39); refine obd_go hq.1 ?_; replace hw := hq.2
  obtain ⟨rfl, rfl⟩ := Prod.mk.inj (Option.some.inj h); exact ⟨rfl, hw⟩
set_option maxRecDepth 10000 in
set_option maxHeartbeats 4000000 in
theorem t_Section_turned {B : Nat} {SA : Nat → Nat} {h0 : Nat → Option JCell} (hs : CS B SA h0) : ∀ (v0 : Nat) (v1 : Int64) (C : CT) (r : Int64) (C9 : CT), CW B C → c_Section_turned v0 v1 C = some (r, C9) → g_Section_turned B v0 v1 (ovC C h0, ck C) = some (r, (ovC C9 h0, ck C9)) ∧ CW B C9 := by
  intro v0 v1 C r C9 hw h
  unfold c_Section_turned at h
  unfold g_Section_turned
  replace h := obd_of h; obtain ⟨x1, hx1, h⟩ := h
  refine obd_go (cg_A rfl hx1) ?_
  replace h := jgd_of h; obtain ⟨hb, h⟩ := h; refine jgd_go (c_job hb) ?_
  replace h := obd_of h; obtain ⟨x2, hx2, h⟩ := h; refine obd_go (t_Section_times hs _ _ _ _ _ hw hx2).1 ?_
  replace h := obd_of h; obtain ⟨x3, hx3, h⟩ := h
  refine obd_go (cg_A rfl hx3) ?_
  replace h := obd_of h; obtain ⟨x4, hx4, h⟩ := h
  refine obd_go (cg_A rfl hx4) ?_
  replace h := obd_of h; obtain ⟨a5, rfl, h⟩ := h; refine obd_go rfl ?_
  replace h := jgd_of h; obtain ⟨hb, h⟩ := h; refine jgd_go (c_job hb) ?_
  replace h := obd_of h; obtain ⟨x6, hx6, h⟩ := h; refine obd_go (t_Row_at hs _ _ _ _ hw hx6).1 ?_
  replace h := obd_of h; obtain ⟨a7, rfl, h⟩ := h; refine obd_go rfl ?_
  replace h := obd_of h; obtain ⟨x8, hx8, h⟩ := h
  refine obd_go (y := x8) ?_ ?_
  · rcases ite_or hx8 with ⟨hb, hx⟩ | ⟨hb0, hx⟩
    · rw [if_pos (c_job hb)]; exact hx
    · obtain ⟨hb, hx⟩ := jgd_of hx; rw [if_neg (c_job_ne hb (by decide)), c_job hb]; exact hx
  replace h := obd_of h; obtain ⟨a9, rfl, h⟩ := h; refine obd_go rfl ?_
  replace h := obd_of h; obtain ⟨x10, hx10, h⟩ := h
  refine obd_go (y := x10) ?_ ?_
  · rcases ite_or hx10 with ⟨hb, hx⟩ | ⟨hb0, hx⟩
    · rw [if_pos (c_job hb)]; exact (t_Real_plus hs _ _ _ _ _ hw hx).1
    · obtain ⟨hb, hx⟩ := jgd_of hx; rw [if_neg (c_job_ne hb (by decide)), c_job hb]; exact hx
  replace h := jgd_of h; obtain ⟨hb, h⟩ := h; refine jgd_go (c_job hb) ?_
  replace h := cbd2_of h; obtain ⟨x11, C12, hx11, h⟩ := h; have hq := (t_Section_settled hs _ _ _ _ _ hw hx11); refine jbd2_go hq.1 ?_; replace hw := hq.2
  replace h := obd_of h; obtain ⟨x13, hx13, h⟩ := h
  refine obd_go (cg_A rfl hx13) ?_
  replace h := jgd_of h; obtain ⟨hb, h⟩ := h; refine jgd_go (c_job hb) ?_
  replace h := obd_of h; obtain ⟨x14, hx14, h⟩ := h; refine obd_go (t_Section_times hs _ _ _ _ _ hw hx14).1 ?_
  replace h := jgd_of h; obtain ⟨hb, h⟩ := h; refine jgd_go (c_job hb) ?_
  replace h := obd_of h; obtain ⟨x15, hx15, h⟩ := h; refine obd_go (t_Section_lessTimes hs _ _ _ _ _ hw hx15).1 ?_
  replace h := obd_of h; obtain ⟨a16, rfl, h⟩ := h; refine obd_go rfl ?_
  replace h := obd_of h; obtain ⟨x17, hx17, h⟩ := h
  refine obd_go (y := x17) ?_ ?_
  · rcases ite_or hx17 with ⟨hb, hx⟩ | ⟨hb0, hx⟩
    · rw [if_pos (c_job hb)]; exact (t_Real_plus hs _ _ _ _ _ hw hx).1
    · obtain ⟨hb, hx⟩ := jgd_of hx; rw [if_neg (c_job_ne hb (by decide)), c_job hb]; exact hx
  replace h := obd_of h; obtain ⟨x18, hx18, h⟩ := h
  refine obd_go (cg_A rfl hx18) ?_
  replace h := obd_of h; obtain ⟨x19, hx19, h⟩ := h
  refine obd_go (cg_A rfl hx19) ?_
  replace h := obd_of h; obtain ⟨x20, hx20, h⟩ := h
  refine obd_go (cg_A rfl hx20) ?_
  replace h := obd_of h; obtain ⟨x21, hx21, h⟩ := h
  refine obd_go (cg_A rfl hx21) ?_
  replace h := obd_of h; obtain ⟨a22, rfl, h⟩ := h; refine obd_go rfl ?_
  replace h := jgd_of h; obtain ⟨hb, h⟩ := h; refine jgd_go (c_job hb) ?_
  replace h := obd_of h; obtain ⟨x23, hx23, h⟩ := h; refine obd_go (t_Row_at hs _ _ _ _ hw hx23).1 ?_
  replace h := obd_of h; obtain ⟨a24, rfl, h⟩ := h; refine obd_go rfl ?_
  replace h := obd_of h; obtain ⟨x25, hx25, h⟩ := h
  refine obd_go (y := x25) ?_ ?_
  · rcases ite_or hx25 with ⟨hb, hx⟩ | ⟨hb0, hx⟩
    · rw [if_pos (c_job hb)]; exact hx
    · obtain ⟨hb, hx⟩ := jgd_of hx; rw [if_neg (c_job_ne hb (by decide)), c_job hb]; exact hx
  replace h := obd_of h; obtain ⟨a26, rfl, h⟩ := h; refine obd_go rfl ?_
  replace h := obd_of h; obtain ⟨x27, hx27, h⟩ := h
  refine obd_go (y := x27) ?_ ?_
  · rcases ite_or hx27 with ⟨hb, hx⟩ | ⟨hb0, hx⟩
    · rw [if_pos (c_job hb)]; exact (t_Real_plus hs _ _ _ _ _ hw hx).1
    · obtain ⟨hb, hx⟩ := jgd_of hx; rw [if_neg (c_job_ne hb (by decide)), c_job hb]; exact hx
  replace h := jgd_of h; obtain ⟨hb, h⟩ := h; refine jgd_go (c_job hb) ?_
  replace h := cbd2_of h; obtain ⟨x28, C29, hx28, h⟩ := h; have hq := (t_Section_settled hs _ _ _ _ _ hw hx28); refine jbd2_go hq.1 ?_; replace hw := hq.2
  replace h := obd_of h; obtain ⟨a30, rfl, h⟩ := h; refine obd_go rfl ?_
  replace h := jgd_of h; obtain ⟨hb, h⟩ := h; refine jgd_go (c_job hb) ?_
  replace h := obd_of h; obtain ⟨C31, hC31, h⟩ := h; have hq := (t_Row_put hs _ _ _ _ _ hw hC31); refine obd_go hq.1 ?_; replace hw := hq.2
  replace h := obd_of h; obtain ⟨x32, hx32, h⟩ := h
  refine obd_go (cg_A rfl hx32) ?_
  replace h := obd_of h; obtain ⟨x33, hx33, h⟩ := h
  refine obd_go (cg_A rfl hx33) ?_
  replace h := jgd_of h; obtain ⟨hb, h⟩ := h; refine jgd_go (c_job hb) ?_
  replace h := obd_of h; obtain ⟨x34, hx34, h⟩ := h; refine obd_go (t_Section_times hs _ _ _ _ _ hw hx34).1 ?_
  replace h := jgd_of h; obtain ⟨hb, h⟩ := h; refine jgd_go (c_job hb) ?_
  replace h := obd_of h; obtain ⟨x35, hx35, h⟩ := h; refine obd_go (t_Section_lessTimes hs _ _ _ _ _ hw hx35).1 ?_
  replace h := obd_of h; obtain ⟨a36, rfl, h⟩ := h; refine obd_go rfl ?_
  replace h := obd_of h; obtain ⟨x37, hx37, h⟩ := h
  refine obd_go (y := x37) ?_ ?_
  · rcases ite_or hx37 with ⟨hb, hx⟩ | ⟨hb0, hx⟩
    · rw [if_pos (c_job hb)]; exact (t_Real_plus hs _ _ _ _ _ hw hx).1
    · obtain ⟨hb, hx⟩ := jgd_of hx; rw [if_neg (c_job_ne hb (by decide)), c_job hb]; exact hx
  replace h := jgd_of h; obtain ⟨hb, h⟩ := h; refine jgd_go (c_job hb) ?_
  replace h := cbd2_of h; obtain ⟨x38, C39, hx38, h⟩ := h; have hq := (t_Section_settled hs _ _ _ _ _ hw hx38); refine jbd2_go hq.1 ?_; replace hw := hq.2
  replace h := obd_of h; obtain ⟨a40, rfl, h⟩ := h; refine obd_go rfl ?_
  replace h := jgd_of h; obtain ⟨hb, h⟩ := h; refine jgd_go (c_job hb) ?_
  replace h := obd_of h; obtain ⟨C41, hC41, h⟩ := h; have hq := (t_Row_put hs _ _ _ _ _ hw hC41); refine obd_go hq.1 ?_; replace hw := hq.2
  obtain ⟨rfl, rfl⟩ := Prod.mk.inj (Option.some.inj h); exact ⟨rfl, hw⟩
set_option maxRecDepth 10000 in
set_option maxHeartbeats 4000000 in
theorem t_Section_step {N : Nat} {B : Nat} {SA : Nat → Nat} {h0 : Nat → Option JCell} (hs : CS B SA h0) : ∀ (v0 : Nat) (v1 : Int64) (v3 : Int64) (C : CT) (r : Int64) (C9 : CT), CW B C → c_Section_step N v0 v1 v3 C = some (r, C9) → g_Section_step N B v0 v1 v3 (ovC C h0, ck C) = some (r, (ovC C9 h0, ck C9)) ∧ CW B C9 := by
  intro v0 v1 v3 C r C9 hw h
  unfold c_Section_step at h
  unfold g_Section_step
  replace h := obd_of h; obtain ⟨x1, hx1, h⟩ := h
  refine obd_go (cg_I rfl hx1) ?_
  replace h := ite_or h; rcases h with ⟨hc, h⟩ | ⟨hc, h⟩
  · refine ite_goT hc ?_
    replace h := jgd_of h; obtain ⟨hb, h⟩ := h; refine jgd_go (c_job hb) ?_
    replace h := obd_of h; obtain ⟨x2, hx2, h⟩ := h; refine obd_go (t_Section_times hs _ _ _ _ _ hw hx2).1 ?_
    replace h := jgd_of h; obtain ⟨hb, h⟩ := h; refine jgd_go (c_job hb) ?_
    replace h := cbd2_of h; obtain ⟨x3, C4, hx3, h⟩ := h; have hq := (t_Section_settled hs _ _ _ _ _ hw hx3); refine jbd2_go hq.1 ?_; replace hw := hq.2
    obtain ⟨rfl, rfl⟩ := Prod.mk.inj (Option.some.inj h); exact ⟨rfl, hw⟩
  · refine ite_goF hc ?_
    replace h := ite_or h; rcases h with ⟨hc, h⟩ | ⟨hc, h⟩
    · refine ite_goT hc ?_
      replace h := jgd_of h; obtain ⟨hb, h⟩ := h; refine jgd_go (c_job hb) ?_
      replace h := cbd2_of h; obtain ⟨x5, C6, hx5, h⟩ := h; have hq := (t_Section_pole hs _ _ _ _ _ hw hx5); refine jbd2_go hq.1 ?_; replace hw := hq.2
      obtain ⟨rfl, rfl⟩ := Prod.mk.inj (Option.some.inj h); exact ⟨rfl, hw⟩
    · refine ite_goF hc ?_
      replace h := ite_or h; rcases h with ⟨hc, h⟩ | ⟨hc, h⟩
      · refine ite_goT hc ?_
        replace h := jgd_of h; obtain ⟨hb, h⟩ := h; refine jgd_go (c_job hb) ?_
        replace h := cbd2_of h; obtain ⟨x7, C8, hx7, h⟩ := h; have hq := (t_Section_direct hs _ _ _ _ _ hw hx7); refine jbd2_go hq.1 ?_; replace hw := hq.2
        obtain ⟨rfl, rfl⟩ := Prod.mk.inj (Option.some.inj h); exact ⟨rfl, hw⟩
      · refine ite_goF hc ?_
        replace h := ite_or h; rcases h with ⟨hc, h⟩ | ⟨hc, h⟩
        · refine ite_goT hc ?_
          replace h := jgd_of h; obtain ⟨hb, h⟩ := h; refine jgd_go (c_job hb) ?_
          replace h := cbd2_of h; obtain ⟨x9, C10, hx9, h⟩ := h; have hq := (t_Section_second hs _ _ _ _ _ hw hx9); refine jbd2_go hq.1 ?_; replace hw := hq.2
          obtain ⟨rfl, rfl⟩ := Prod.mk.inj (Option.some.inj h); exact ⟨rfl, hw⟩
        · refine ite_goF hc ?_
          replace h := ite_or h; rcases h with ⟨hc, h⟩ | ⟨hc, h⟩
          · refine ite_goT hc ?_
            replace h := jgd_of h; obtain ⟨hb, h⟩ := h; refine jgd_go (c_job hb) ?_
            replace h := cbd2_of h; obtain ⟨x11, C12, hx11, h⟩ := h; have hq := (t_Section_turned hs _ _ _ _ _ hw hx11); refine jbd2_go hq.1 ?_; replace hw := hq.2
            obtain ⟨rfl, rfl⟩ := Prod.mk.inj (Option.some.inj h); exact ⟨rfl, hw⟩
          · refine ite_goF hc ?_
            replace h := ite_or h; rcases h with ⟨hc, h⟩ | ⟨hc, h⟩
            · refine ite_goT hc ?_
              replace h := jgd_of h; obtain ⟨hb, h⟩ := h; refine jgd_go (c_job hb) ?_
              replace h := cbd2_of h; obtain ⟨x13, C14, hx13, h⟩ := h; have hq := (t_Section_pass hs _ _ _ _ _ hw hx13); refine jbd2_go hq.1 ?_; replace hw := hq.2
              obtain ⟨rfl, rfl⟩ := Prod.mk.inj (Option.some.inj h); exact ⟨rfl, hw⟩
            · refine ite_goF hc ?_
              replace h := ite_or h; rcases h with ⟨hc, h⟩ | ⟨hc, h⟩
              · refine ite_goT hc ?_
                replace h := jgd_of h; obtain ⟨hb, h⟩ := h; refine jgd_go (c_job hb) ?_
                replace h := cbd2_of h; obtain ⟨x15, C16, hx15, h⟩ := h; have hq := (t_Section_delayed hs _ _ _ _ _ hw hx15); refine jbd2_go hq.1 ?_; replace hw := hq.2
                obtain ⟨rfl, rfl⟩ := Prod.mk.inj (Option.some.inj h); exact ⟨rfl, hw⟩
              · refine ite_goF hc ?_
                replace h := ite_or h; rcases h with ⟨hc, h⟩ | ⟨hc, h⟩
                · refine ite_goT hc ?_
                  replace h := jgd_of h; obtain ⟨hb, h⟩ := h; refine jgd_go (c_job hb) ?_
                  replace h := cbd2_of h; obtain ⟨x17, C18, hx17, h⟩ := h; have hq := (t_Section_mean hs _ _ _ _ _ hw hx17); refine jbd2_go hq.1 ?_; replace hw := hq.2
                  obtain ⟨rfl, rfl⟩ := Prod.mk.inj (Option.some.inj h); exact ⟨rfl, hw⟩
                · refine ite_goF hc ?_
                  replace h := ite_or h; rcases h with ⟨hc, h⟩ | ⟨hc, h⟩
                  · refine ite_goT hc ?_
                    replace h := jgd_of h; obtain ⟨hb, h⟩ := h; refine jgd_go (c_job hb) ?_
                    replace h := cbd2_of h; obtain ⟨x19, C20, hx19, h⟩ := h; have hq := (t_Section_comb hs _ _ _ _ _ hw hx19); refine jbd2_go hq.1 ?_; replace hw := hq.2
                    obtain ⟨rfl, rfl⟩ := Prod.mk.inj (Option.some.inj h); exact ⟨rfl, hw⟩
                  · refine ite_goF hc ?_
                    replace h := ite_or h; rcases h with ⟨hc, h⟩ | ⟨hc, h⟩
                    · refine ite_goT hc ?_
                      replace h := jgd_of h; obtain ⟨hb, h⟩ := h; refine jgd_go (c_job hb) ?_
                      replace h := cbd2_of h; obtain ⟨x21, C22, hx21, h⟩ := h; have hq := (t_Section_clipped hs _ _ _ _ _ hw hx21); refine jbd2_go hq.1 ?_; replace hw := hq.2
                      obtain ⟨rfl, rfl⟩ := Prod.mk.inj (Option.some.inj h); exact ⟨rfl, hw⟩
                    · refine ite_goF hc ?_
                      replace h := ite_or h; rcases h with ⟨hc, h⟩ | ⟨hc, h⟩
                      · refine ite_goT hc ?_
                        replace h := jgd_of h; obtain ⟨hb, h⟩ := h; refine jgd_go (c_job hb) ?_
                        replace h := cbd2_of h; obtain ⟨x23, C24, hx23, h⟩ := h; have hq := (t_Section_deadened hs _ _ _ _ _ hw hx23); refine jbd2_go hq.1 ?_; replace hw := hq.2
                        obtain ⟨rfl, rfl⟩ := Prod.mk.inj (Option.some.inj h); exact ⟨rfl, hw⟩
                      · refine ite_goF hc ?_
                        replace h := ite_or h; rcases h with ⟨hc, h⟩ | ⟨hc, h⟩
                        · refine ite_goT hc ?_
                          replace h := jgd_of h; obtain ⟨hb, h⟩ := h; refine jgd_go (c_job hb) ?_
                          replace h := cbd2_of h; obtain ⟨x25, C26, hx25, h⟩ := h; have hq := (t_Section_peak hs _ _ _ _ _ hw hx25); refine jbd2_go hq.1 ?_; replace hw := hq.2
                          obtain ⟨rfl, rfl⟩ := Prod.mk.inj (Option.some.inj h); exact ⟨rfl, hw⟩
                        · refine ite_goF hc ?_
                          replace h := ite_or h; rcases h with ⟨hc, h⟩ | ⟨hc, h⟩
                          · refine ite_goT hc ?_
                            obtain ⟨rfl, rfl⟩ := Prod.mk.inj (Option.some.inj h); exact ⟨rfl, hw⟩
                          · refine ite_goF hc ?_
                            replace h := ite_or h; rcases h with ⟨hc, h⟩ | ⟨hc, h⟩
                            · refine ite_goT hc ?_
                              obtain ⟨rfl, rfl⟩ := Prod.mk.inj (Option.some.inj h); exact ⟨rfl, hw⟩
                            · refine ite_goF hc ?_
                              replace h := ite_or h; rcases h with ⟨hc, h⟩ | ⟨hc, h⟩
                              · refine ite_goT hc ?_
                                obtain ⟨rfl, rfl⟩ := Prod.mk.inj (Option.some.inj h); exact ⟨rfl, hw⟩
                              · refine ite_goF hc ?_
                                replace h := ite_or h; rcases h with ⟨hc, h⟩ | ⟨hc, h⟩
                                · refine ite_goT hc ?_
                                  replace h := obd_of h; obtain ⟨x27, hx27, h⟩ := h
                                  refine obd_go (cg_A rfl hx27) ?_
                                  replace h := jgd_of h; obtain ⟨hb, h⟩ := h; refine jgd_go (c_job hb) ?_
                                  replace h := obd_of h; obtain ⟨x28, hx28, h⟩ := h; refine obd_go (t_Section_times hs _ _ _ _ _ hw hx28).1 ?_
                                  replace h := jgd_of h; obtain ⟨hb, h⟩ := h; refine jgd_go (c_job hb) ?_
                                  replace h := obd_of h; obtain ⟨x29, hx29, h⟩ := h; refine obd_go (t_Section_times hs _ _ _ _ _ hw hx29).1 ?_
                                  replace h := obd_of h; obtain ⟨a30, rfl, h⟩ := h; refine obd_go rfl ?_
                                  replace h := obd_of h; obtain ⟨x31, hx31, h⟩ := h
                                  refine obd_go (y := x31) ?_ ?_
                                  · rcases ite_or hx31 with ⟨hb, hx⟩ | ⟨hb0, hx⟩
                                    · rw [if_pos (c_job hb)]; exact (t_Real_plus hs _ _ _ _ _ hw hx).1
                                    · obtain ⟨hb, hx⟩ := jgd_of hx; rw [if_neg (c_job_ne hb (by decide)), c_job hb]; exact hx
                                  replace h := jgd_of h; obtain ⟨hb, h⟩ := h; refine jgd_go (c_job hb) ?_
                                  replace h := cbd2_of h; obtain ⟨x32, C33, hx32, h⟩ := h; have hq := (t_Section_settled hs _ _ _ _ _ hw hx32); refine jbd2_go hq.1 ?_; replace hw := hq.2
                                  obtain ⟨rfl, rfl⟩ := Prod.mk.inj (Option.some.inj h); exact ⟨rfl, hw⟩
                                · refine ite_goF hc ?_
                                  obtain ⟨rfl, rfl⟩ := Prod.mk.inj (Option.some.inj h); exact ⟨rfl, hw⟩
set_option maxRecDepth 10000 in
set_option maxHeartbeats 4000000 in
theorem t_B_send_111 {N : Nat} {B : Nat} {SA : Nat → Nat} {h0 : Nat → Option JCell} (hs : CS B SA h0) {kS : Option Nat → Int32 → Int64 → Int32 → CT → Option (Int32 × CT)} {kSG : Option Nat → Int32 → Int64 → Int32 → JMem → Option (Int32 × JMem)} (iS : ∀ (v0 : Option Nat) (v1 : Int32) (v2 : Int64) (v4 : Int32) (C : CT) (r : Int32) (C9 : CT), CW B C → kS v0 v1 v2 v4 C = some (r, C9) → kSG v0 v1 v2 v4 (ovC C h0, ck C) = some (r, (ovC C9 h0, ck C9)) ∧ CW B C9) {k73 : Nat → Int32 → Int64 → Int32 → Nat → Int32 → Int32 → CT → Option (Int32 × CT)} {k73G : Nat → Int32 → Int64 → Int32 → Nat → Int32 → Int32 → JMem → Option (Int32 × JMem)} (i73 : ∀ (v0 : Nat) (v4 : Int32) (v5 : Int64) (v7 : Int32) (v8 : Nat) (v9 : Int32) (v10 : Int32) (C : CT) (r : Int32) (C9 : CT), CW B C → k73 v0 v4 v5 v7 v8 v9 v10 C = some (r, C9) → k73G v0 v4 v5 v7 v8 v9 v10 (ovC C h0, ck C) = some (r, (ovC C9 h0, ck C9)) ∧ CW B C9) : ∀ (v0 : Nat) (v4 : Int32) (v5 : Int64) (v7 : Int32) (v8 : Nat) (v10 : Int32) (s0 : Int64) (s1 : Int32) (s2 : Nat) (s3 : Int32) (C : CT) (r : Int32) (C9 : CT), CW B C → c_B_send_111 N kS k73 v0 v4 v5 v7 v8 v10 s0 s1 s2 s3 C = some (r, C9) → g_B_send_111 N B kSG k73G v0 v4 v5 v7 v8 v10 s0 s1 s2 s3 (ovC C h0, ck C) = some (r, (ovC C9 h0, ck C9)) ∧ CW B C9 := by
  intro v0 v4 v5 v7 v8 v10 s0 s1 s2 s3 C r C9 hw h
  unfold c_B_send_111 at h
  unfold g_B_send_111
  replace h := cbd2_of h; obtain ⟨x1, C2, hx1, h⟩ := h; have hq := (iS _ _ _ _ _ _ _ hw hx1); refine jbd2_go hq.1 ?_; replace hw := hq.2
  exact i73 _ _ _ _ _ _ _ _ _ _ hw h
set_option maxRecDepth 10000 in
set_option maxHeartbeats 4000000 in
theorem t_B_send_105 {N : Nat} {B : Nat} {SA : Nat → Nat} {h0 : Nat → Option JCell} (hs : CS B SA h0) {kS : Option Nat → Int32 → Int64 → Int32 → CT → Option (Int32 × CT)} {kSG : Option Nat → Int32 → Int64 → Int32 → JMem → Option (Int32 × JMem)} (iS : ∀ (v0 : Option Nat) (v1 : Int32) (v2 : Int64) (v4 : Int32) (C : CT) (r : Int32) (C9 : CT), CW B C → kS v0 v1 v2 v4 C = some (r, C9) → kSG v0 v1 v2 v4 (ovC C h0, ck C) = some (r, (ovC C9 h0, ck C9)) ∧ CW B C9) {k73 : Nat → Int32 → Int64 → Int32 → Nat → Int32 → Int32 → CT → Option (Int32 × CT)} {k73G : Nat → Int32 → Int64 → Int32 → Nat → Int32 → Int32 → JMem → Option (Int32 × JMem)} (i73 : ∀ (v0 : Nat) (v4 : Int32) (v5 : Int64) (v7 : Int32) (v8 : Nat) (v9 : Int32) (v10 : Int32) (C : CT) (r : Int32) (C9 : CT), CW B C → k73 v0 v4 v5 v7 v8 v9 v10 C = some (r, C9) → k73G v0 v4 v5 v7 v8 v9 v10 (ovC C h0, ck C) = some (r, (ovC C9 h0, ck C9)) ∧ CW B C9) : ∀ (v0 : Nat) (v4 : Int32) (v5 : Int64) (v7 : Int32) (v8 : Nat) (v10 : Int32) (s0 : Int32) (s1 : Nat) (s2 : Int32) (C : CT) (r : Int32) (C9 : CT), CW B C → c_B_send_105 N kS k73 v0 v4 v5 v7 v8 v10 s0 s1 s2 C = some (r, C9) → g_B_send_105 N B kSG k73G v0 v4 v5 v7 v8 v10 s0 s1 s2 (ovC C h0, ck C) = some (r, (ovC C9 h0, ck C9)) ∧ CW B C9 := by
  intro v0 v4 v5 v7 v8 v10 s0 s1 s2 C r C9 hw h
  unfold c_B_send_105 at h
  unfold g_B_send_105
  exact t_B_send_111 hs iS i73 _ _ _ _ _ _ _ _ _ _ _ _ _ hw h
set_option maxRecDepth 10000 in
set_option maxHeartbeats 4000000 in
theorem t_B_send_73 {N : Nat} {B : Nat} {SA : Nat → Nat} {h0 : Nat → Option JCell} (hs : CS B SA h0) {kS : Option Nat → Int32 → Int64 → Int32 → CT → Option (Int32 × CT)} {kSG : Option Nat → Int32 → Int64 → Int32 → JMem → Option (Int32 × JMem)} (iS : ∀ (v0 : Option Nat) (v1 : Int32) (v2 : Int64) (v4 : Int32) (C : CT) (r : Int32) (C9 : CT), CW B C → kS v0 v1 v2 v4 C = some (r, C9) → kSG v0 v1 v2 v4 (ovC C h0, ck C) = some (r, (ovC C9 h0, ck C9)) ∧ CW B C9) : ∀ (n : Nat), ∀ (v0 : Nat) (v4 : Int32) (v5 : Int64) (v7 : Int32) (v8 : Nat) (v9 : Int32) (v10 : Int32) (C : CT) (r : Int32) (C9 : CT), CW B C → c_B_send_73 N kS n v0 v4 v5 v7 v8 v9 v10 C = some (r, C9) → g_B_send_73 N B kSG n v0 v4 v5 v7 v8 v9 v10 (ovC C h0, ck C) = some (r, (ovC C9 h0, ck C9)) ∧ CW B C9 := by
  intro n
  induction n with
  | zero =>
    intro v0 v4 v5 v7 v8 v9 v10 C r C9 hw h
    unfold c_B_send_73 at h
    cases h
  | succ n ih =>
    intro v0 v4 v5 v7 v8 v9 v10 C r C9 hw h
    unfold c_B_send_73 at h
    unfold g_B_send_73
    replace h := obd_of h; obtain ⟨x1, hx1, h⟩ := h
    refine obd_go (cg_I rfl hx1) ?_
    replace h := ite_or h; rcases h with ⟨hc, h⟩ | ⟨hc, h⟩
    · refine ite_goT hc ?_
      obtain ⟨rfl, rfl⟩ := Prod.mk.inj (Option.some.inj h); exact ⟨rfl, hw⟩
    · refine ite_goF hc ?_
      replace h := ite_or h; rcases h with ⟨hc, h⟩ | ⟨hc, h⟩
      · refine ite_goT hc ?_
        exact t_B_send_105 hs iS ih _ _ _ _ _ _ _ _ _ _ _ _ hw h
      · refine ite_goF hc ?_
        replace h := obd_of h; obtain ⟨x2, hx2, h⟩ := h
        refine obd_go (cg_I rfl hx2) ?_
        replace h := ite_or h; rcases h with ⟨hc, h⟩ | ⟨hc, h⟩
        · refine ite_goT hc ?_
          exact t_B_send_105 hs iS ih _ _ _ _ _ _ _ _ _ _ _ _ hw h
        · refine ite_goF hc ?_
          exact t_B_send_111 hs iS ih _ _ _ _ _ _ _ _ _ _ _ _ _ hw h
set_option maxRecDepth 10000 in
set_option maxHeartbeats 4000000 in
theorem t_B_send_198 {N : Nat} {B : Nat} {SA : Nat → Nat} {h0 : Nat → Option JCell} (hs : CS B SA h0) {kS : Option Nat → Int32 → Int64 → Int32 → CT → Option (Int32 × CT)} {kSG : Option Nat → Int32 → Int64 → Int32 → JMem → Option (Int32 × JMem)} (iS : ∀ (v0 : Option Nat) (v1 : Int32) (v2 : Int64) (v4 : Int32) (C : CT) (r : Int32) (C9 : CT), CW B C → kS v0 v1 v2 v4 C = some (r, C9) → kSG v0 v1 v2 v4 (ovC C h0, ck C) = some (r, (ovC C9 h0, ck C9)) ∧ CW B C9) {k15 : Option Nat → Int32 → Int64 → Int32 → CT → Option (Int32 × CT)} {k15G : Option Nat → Int32 → Int64 → Int32 → JMem → Option (Int32 × JMem)} (i15 : ∀ (v0 : Option Nat) (v4 : Int32) (v5 : Int64) (v7 : Int32) (C : CT) (r : Int32) (C9 : CT), CW B C → k15 v0 v4 v5 v7 C = some (r, C9) → k15G v0 v4 v5 v7 (ovC C h0, ck C) = some (r, (ovC C9 h0, ck C9)) ∧ CW B C9) : ∀ (v0 : Nat) (v4 : Int32) (v5 : Int64) (v7 : Int32) (C : CT) (r : Int32) (C9 : CT), CW B C → c_B_send_198 N kS k15 v0 v4 v5 v7 C = some (r, C9) → g_B_send_198 N B kSG k15G v0 v4 v5 v7 (ovC C h0, ck C) = some (r, (ovC C9 h0, ck C9)) ∧ CW B C9 := by
  intro v0 v4 v5 v7 C r C9 hw h
  unfold c_B_send_198 at h
  unfold g_B_send_198
  exact i15 _ _ _ _ _ _ _ hw h
set_option maxRecDepth 10000 in
set_option maxHeartbeats 4000000 in
theorem t_B_send_179 {N : Nat} {B : Nat} {SA : Nat → Nat} {h0 : Nat → Option JCell} (hs : CS B SA h0) {kS : Option Nat → Int32 → Int64 → Int32 → CT → Option (Int32 × CT)} {kSG : Option Nat → Int32 → Int64 → Int32 → JMem → Option (Int32 × JMem)} (iS : ∀ (v0 : Option Nat) (v1 : Int32) (v2 : Int64) (v4 : Int32) (C : CT) (r : Int32) (C9 : CT), CW B C → kS v0 v1 v2 v4 C = some (r, C9) → kSG v0 v1 v2 v4 (ovC C h0, ck C) = some (r, (ovC C9 h0, ck C9)) ∧ CW B C9) {k15 : Option Nat → Int32 → Int64 → Int32 → CT → Option (Int32 × CT)} {k15G : Option Nat → Int32 → Int64 → Int32 → JMem → Option (Int32 × JMem)} (i15 : ∀ (v0 : Option Nat) (v4 : Int32) (v5 : Int64) (v7 : Int32) (C : CT) (r : Int32) (C9 : CT), CW B C → k15 v0 v4 v5 v7 C = some (r, C9) → k15G v0 v4 v5 v7 (ovC C h0, ck C) = some (r, (ovC C9 h0, ck C9)) ∧ CW B C9) : ∀ (v0 : Nat) (v4 : Int32) (v5 : Int64) (v7 : Int32) (v8 : Nat) (v9 : Int64) (C : CT) (r : Int32) (C9 : CT), CW B C → c_B_send_179 N kS k15 v0 v4 v5 v7 v8 v9 C = some (r, C9) → g_B_send_179 N B kSG k15G v0 v4 v5 v7 v8 v9 (ovC C h0, ck C) = some (r, (ovC C9 h0, ck C9)) ∧ CW B C9 := by
  intro v0 v4 v5 v7 v8 v9 C r C9 hw h
  unfold c_B_send_179 at h
  unfold g_B_send_179
  replace h := jgd_of h; obtain ⟨hb, h⟩ := h; refine jgd_go (c_job hb) ?_
  replace h := cbd2_of h; obtain ⟨x1, C2, hx1, h⟩ := h; have hq := (t_Section_step hs _ _ _ _ _ _ hw hx1); refine jbd2_go hq.1 ?_; replace hw := hq.2
  replace h := jgd_of h; obtain ⟨hb, h⟩ := h; refine jgd_go (c_job hb) ?_
  replace h := obd_of h; obtain ⟨C3, hC3, h⟩ := h; have hq := (t_Chain_note hs _ _ _ _ _ hw hC3); refine obd_go hq.1 ?_; replace hw := hq.2
  exact t_B_send_198 hs iS i15 _ _ _ _ _ _ _ hw h
set_option maxRecDepth 10000 in
set_option maxHeartbeats 4000000 in
theorem t_B_send_15 {N : Nat} {B : Nat} {SA : Nat → Nat} {h0 : Nat → Option JCell} (hs : CS B SA h0) {kS : Option Nat → Int32 → Int64 → Int32 → CT → Option (Int32 × CT)} {kSG : Option Nat → Int32 → Int64 → Int32 → JMem → Option (Int32 × JMem)} (iS : ∀ (v0 : Option Nat) (v1 : Int32) (v2 : Int64) (v4 : Int32) (C : CT) (r : Int32) (C9 : CT), CW B C → kS v0 v1 v2 v4 C = some (r, C9) → kSG v0 v1 v2 v4 (ovC C h0, ck C) = some (r, (ovC C9 h0, ck C9)) ∧ CW B C9) : ∀ (n : Nat), ∀ (v0 : Option Nat) (v4 : Int32) (v5 : Int64) (v7 : Int32) (C : CT) (r : Int32) (C9 : CT), CW B C → c_B_send_15 N kS n v0 v4 v5 v7 C = some (r, C9) → g_B_send_15 N B kSG n v0 v4 v5 v7 (ovC C h0, ck C) = some (r, (ovC C9 h0, ck C9)) ∧ CW B C9 := by
  intro n
  induction n with
  | zero =>
    intro v0 v4 v5 v7 C r C9 hw h
    unfold c_B_send_15 at h
    cases h
  | succ n ih =>
    intro v0 v4 v5 v7 C r C9 hw h
    unfold c_B_send_15 at h
    unfold g_B_send_15
    replace h := obd_of h; obtain ⟨a1, rfl, h⟩ := h; refine obd_go rfl ?_
    replace h := obd_of h; obtain ⟨x2, hx2, h⟩ := h
    refine obd_go (cg_I rfl hx2) ?_
    replace h := ite_or h; rcases h with ⟨hc, h⟩ | ⟨hc, h⟩
    · refine ite_goT hc ?_
      replace h := jgd_of h; obtain ⟨hb, h⟩ := h; refine jgd_go (c_job hb) ?_
      replace h := obd_of h; obtain ⟨C3, hC3, h⟩ := h; have hq := (t_Chain_emit hs _ _ _ _ hw hC3); refine obd_go hq.1 ?_; replace hw := hq.2
      obtain ⟨rfl, rfl⟩ := Prod.mk.inj (Option.some.inj h); exact ⟨rfl, hw⟩
    · refine ite_goF hc ?_
      replace h := jgd_of h; obtain ⟨hb, h⟩ := h; refine jgd_go (c_job hb) ?_
      replace h := obd_of h; obtain ⟨x4, hx4, h⟩ := h; refine obd_go (t_Chain_memberAt hs _ _ _ _ hw hx4).1 ?_
      replace h := jon_or h; rcases h with ⟨rfl, h⟩ | ⟨a5, rfl, h⟩
      · refine jon_goN ?_
        obtain ⟨rfl, rfl⟩ := Prod.mk.inj (Option.some.inj h); exact ⟨rfl, hw⟩
      · refine jon_goS ?_
        replace h := obd_of h; obtain ⟨x6, hx6, h⟩ := h
        refine obd_go (cg_I rfl hx6) ?_
        replace h := ite_or h; rcases h with ⟨hc, h⟩ | ⟨hc, h⟩
        · refine ite_goT hc ?_
          replace h := jgd_of h; obtain ⟨hb, h⟩ := h; refine jgd_go (c_job hb) ?_
          replace h := cbd2_of h; obtain ⟨x7, C8, hx7, h⟩ := h; have hq := (t_Section_letsThrough hs _ _ _ _ hw hx7); refine jbd2_go hq.1 ?_; replace hw := hq.2
          replace h := ite_or h; rcases h with ⟨hc, h⟩ | ⟨hc, h⟩
          · refine ite_goT hc ?_
            exact t_B_send_198 hs iS ih _ _ _ _ _ _ _ hw h
          · refine ite_goF hc ?_
            obtain ⟨rfl, rfl⟩ := Prod.mk.inj (Option.some.inj h); exact ⟨rfl, hw⟩
        · refine ite_goF hc ?_
          replace h := jgd_of h; obtain ⟨hb, h⟩ := h; refine jgd_go (c_job hb) ?_
          replace h := obd_of h; obtain ⟨x9, hx9, h⟩ := h; refine obd_go (t_Section_spreads hs _ _ _ hw hx9).1 ?_
          replace h := ite_or h; rcases h with ⟨hc, h⟩ | ⟨hc, h⟩
          · refine ite_goT hc ?_
            exact t_B_send_73 hs iS _ _ _ _ _ _ _ _ _ _ _ hw h
          · refine ite_goF hc ?_
            replace h := jgd_of h; obtain ⟨hb, h⟩ := h; refine jgd_go (c_job hb) ?_
            replace h := cbd2_of h; obtain ⟨x10, C11, hx10, h⟩ := h; have hq := (t_Chain_looped hs _ _ _ _ _ _ _ hw hx10); refine jbd2_go hq.1 ?_; replace hw := hq.2
            replace h := obd_of h; obtain ⟨x12, hx12, h⟩ := h
            refine obd_go (cg_A rfl hx12) ?_
            replace h := jon_or h; rcases h with ⟨rfl, h⟩ | ⟨a13, rfl, h⟩
            · refine jon_goN ?_
              exact t_B_send_179 hs iS ih _ _ _ _ _ _ _ _ _ hw h
            · refine jon_goS ?_
              replace h := obd_of h; obtain ⟨x14, hx14, h⟩ := h
              refine obd_go (cg_A rfl hx14) ?_
              replace h := cbd2_of h; obtain ⟨x15, C16, hx15, h⟩ := h; have hq := (iS _ _ _ _ _ _ _ hw hx15); refine jbd2_go hq.1 ?_; replace hw := hq.2
              replace h := obd_of h; obtain ⟨x17, hx17, h⟩ := h
              refine obd_go (cg_A rfl hx17) ?_
              replace h := obd_of h; obtain ⟨a18, rfl, h⟩ := h; refine obd_go rfl ?_
              replace h := jgd_of h; obtain ⟨hb, h⟩ := h; refine jgd_go (c_job hb) ?_
              replace h := obd_of h; obtain ⟨x19, hx19, h⟩ := h; refine obd_go (t_Chain_madeLast hs _ _ _ hw hx19).1 ?_
              exact t_B_send_179 hs iS ih _ _ _ _ _ _ _ _ _ hw h
set_option maxRecDepth 10000 in
set_option maxHeartbeats 4000000 in
theorem t_B_send_b {N : Nat} {B : Nat} {SA : Nat → Nat} {h0 : Nat → Option JCell} (hs : CS B SA h0) {kS : Option Nat → Int32 → Int64 → Int32 → CT → Option (Int32 × CT)} {kSG : Option Nat → Int32 → Int64 → Int32 → JMem → Option (Int32 × JMem)} (iS : ∀ (v0 : Option Nat) (v1 : Int32) (v2 : Int64) (v4 : Int32) (C : CT) (r : Int32) (C9 : CT), CW B C → kS v0 v1 v2 v4 C = some (r, C9) → kSG v0 v1 v2 v4 (ovC C h0, ck C) = some (r, (ovC C9 h0, ck C9)) ∧ CW B C9) : ∀ (v0 : Option Nat) (v1 : Int32) (v2 : Int64) (v4 : Int32) (C : CT) (r : Int32) (C9 : CT), CW B C → c_B_send_b N kS v0 v1 v2 v4 C = some (r, C9) → g_B_send_b N B kSG v0 v1 v2 v4 (ovC C h0, ck C) = some (r, (ovC C9 h0, ck C9)) ∧ CW B C9 := by
  intro v0 v1 v2 v4 C r C9 hw h
  unfold c_B_send_b at h
  unfold g_B_send_b
  replace h := ite_or h; rcases h with ⟨hc, h⟩ | ⟨hc, h⟩
  · refine ite_goT hc ?_
    exact t_B_send_15 hs iS _ _ _ _ _ _ _ _ hw h
  · refine ite_goF hc ?_
    obtain ⟨rfl, rfl⟩ := Prod.mk.inj (Option.some.inj h); exact ⟨rfl, hw⟩
set_option maxRecDepth 10000 in
set_option maxHeartbeats 4000000 in
theorem t_B_send {N : Nat} {B : Nat} {SA : Nat → Nat} {h0 : Nat → Option JCell} (hs : CS B SA h0) : ∀ (n : Nat), ∀ (v0 : Option Nat) (v1 : Int32) (v2 : Int64) (v4 : Int32) (C : CT) (r : Int32) (C9 : CT), CW B C → c_B_send N n v0 v1 v2 v4 C = some (r, C9) → g_B_send N B n v0 v1 v2 v4 (ovC C h0, ck C) = some (r, (ovC C9 h0, ck C9)) ∧ CW B C9 := by
  intro n
  induction n with
  | zero =>
    intro v0 v1 v2 v4 C r C9 hw h
    unfold c_B_send at h
    cases h
  | succ n ih =>
    intro v0 v1 v2 v4 C r C9 hw h
    unfold c_B_send at h
    unfold g_B_send
    exact t_B_send_b hs ih v0 v1 v2 v4 C r C9 hw h
set_option maxRecDepth 10000 in
set_option maxHeartbeats 4000000 in
theorem t_B_feed {N : Nat} {M : Nat} {B : Nat} {SA : Nat → Nat} {h0 : Nat → Option JCell} (hs : CS B SA h0) : ∀ (v0 : Nat) (v1 : Int32) (v2 : Int64) (C : CT) (r : Int32) (C9 : CT), CW B C → c_B_feed N M v0 v1 v2 C = some (r, C9) → g_B_feed N M B v0 v1 v2 (ovC C h0, ck C) = some (r, (ovC C9 h0, ck C9)) ∧ CW B C9 := by
  intro v0 v1 v2 C r C9 hw h
  unfold c_B_feed at h
  unfold g_B_feed
  replace h := jgd_of h; obtain ⟨hb, h⟩ := h; refine jgd_go (c_job hb) ?_
  replace h := obd_of h; obtain ⟨x1, hx1, h⟩ := h; refine obd_go (t_B_fedAlone hs _ _ _ _ hw hx1).1 ?_
  replace h := jon_or h; rcases h with ⟨rfl, h⟩ | ⟨a2, rfl, h⟩
  · refine jon_goN ?_
    obtain ⟨rfl, rfl⟩ := Prod.mk.inj (Option.some.inj h); exact ⟨rfl, hw⟩
  · refine jon_goS ?_
    replace h := jgd_of h; obtain ⟨hb, h⟩ := h; refine jgd_go (c_job hb) ?_
    replace h := obd_of h; obtain ⟨x3, hx3, h⟩ := h; refine obd_go (t_Chain_sort hs _ _ _ hw hx3).1 ?_
    replace h := jgd_of h; obtain ⟨hb, h⟩ := h; refine jgd_go (c_job hb) ?_
    replace h := obd_of h; obtain ⟨x4, hx4, h⟩ := h; refine obd_go (t_B_numbersOf hs _ _ _ _ hw hx4).1 ?_
    replace h := jon_or h; rcases h with ⟨rfl, h⟩ | ⟨a5, rfl, h⟩
    · refine jon_goN ?_
      obtain ⟨rfl, rfl⟩ := Prod.mk.inj (Option.some.inj h); exact ⟨rfl, hw⟩
    · refine jon_goS ?_
      replace h := obd_of h; obtain ⟨x6, hx6, h⟩ := h
      refine obd_go (y := x6) ?_ ?_
      · rcases ite_or hx6 with ⟨hb, hx⟩ | ⟨hb0, hx⟩
        · rw [if_pos (c_job hb)]; exact (t_Real_holds hs _ _ _ _ hw hx).1
        · obtain ⟨hb, hx⟩ := jgd_of hx; rw [if_neg (c_job_ne hb (by decide)), c_job hb]; exact hx
      replace h := ite_or h; rcases h with ⟨hc, h⟩ | ⟨hc, h⟩
      · refine ite_goT hc ?_
        replace h := obd_of h; obtain ⟨x7, hx7, h⟩ := h
        refine obd_go (y := x7) ?_ ?_
        · rcases ite_or hx7 with ⟨hb, hx⟩ | ⟨hb0, hx⟩
          · rw [if_pos (c_job hb)]; exact (t_Real_clean hs _ _ _ _ hw hx).1
          · obtain ⟨hb, hx⟩ := jgd_of hx; rw [if_neg (c_job_ne hb (by decide)), c_job hb]; exact hx
        replace h := cbd2_of h; obtain ⟨x8, C9, hx8, h⟩ := h; have hq := (t_B_send hs M _ _ _ _ _ _ _ hw hx8); refine jbd2_go hq.1 ?_; replace hw := hq.2
        obtain ⟨rfl, rfl⟩ := Prod.mk.inj (Option.some.inj h); exact ⟨rfl, hw⟩
      · refine ite_goF hc ?_
        obtain ⟨rfl, rfl⟩ := Prod.mk.inj (Option.some.inj h); exact ⟨rfl, hw⟩
set_option maxRecDepth 10000 in
set_option maxHeartbeats 4000000 in
theorem t_Chain_madeAs_12 {B : Nat} {SA : Nat → Nat} {h0 : Nat → Option JCell} (hs : CS B SA h0) : ∀ (C : CT) (r : Int64), CW B C → c_Chain_madeAs_12 C = some r → g_Chain_madeAs_12 (ovC C h0) = some r ∧ True := by
  intro C r hw h
  unfold c_Chain_madeAs_12 at h
  unfold g_Chain_madeAs_12
  obtain rfl := Option.some.inj h; exact ⟨rfl, trivial⟩
set_option maxRecDepth 10000 in
set_option maxHeartbeats 4000000 in
theorem t_Chain_madeAs {B : Nat} {SA : Nat → Nat} {h0 : Nat → Option JCell} (hs : CS B SA h0) : ∀ (v0 : Nat) (v1 : Int32) (C : CT) (r : Int64), CW B C → c_Chain_madeAs v0 v1 C = some r → g_Chain_madeAs v0 v1 (ovC C h0) = some r ∧ True := by
  intro v0 v1 C r hw h
  unfold c_Chain_madeAs at h
  unfold g_Chain_madeAs
  replace h := ite_or h; rcases h with ⟨hc, h⟩ | ⟨hc, h⟩
  · refine ite_goT hc ?_
    exact t_Chain_madeAs_12 hs  _ _ hw h
  · refine ite_goF hc ?_
    replace h := obd_of h; obtain ⟨x1, hx1, h⟩ := h
    refine obd_go (cg_I rfl hx1) ?_
    replace h := ite_or h; rcases h with ⟨hc, h⟩ | ⟨hc, h⟩
    · refine ite_goT hc ?_
      replace h := obd_of h; obtain ⟨x2, hx2, h⟩ := h
      refine obd_go (cg_I rfl hx2) ?_
      replace h := jgd_of h; obtain ⟨hb, h⟩ := h; refine jgd_go (c_job hb) ?_
      replace h := obd_of h; obtain ⟨x3, hx3, h⟩ := h; refine obd_go (t_Chain_madeBefore hs _ _ _ _ hw hx3).1 ?_
      obtain rfl := Option.some.inj h; exact ⟨rfl, trivial⟩
    · refine ite_goF hc ?_
      exact t_Chain_madeAs_12 hs  _ _ hw h
set_option maxRecDepth 10000 in
set_option maxHeartbeats 4000000 in
theorem t_B_output {B : Nat} {SA : Nat → Nat} {h0 : Nat → Option JCell} (hs : CS B SA h0) : ∀ (v0 : Nat) (v1 : Int32) (v2 : Int32) (C : CT) (r : Int64), CW B C → c_B_output v0 v1 v2 C = some r → g_B_output v0 v1 v2 (ovC C h0) = some r ∧ True := by
  intro v0 v1 v2 C r hw h
  unfold c_B_output at h
  unfold g_B_output
  replace h := jgd_of h; obtain ⟨hb, h⟩ := h; refine jgd_go (c_job hb) ?_
  replace h := obd_of h; obtain ⟨x1, hx1, h⟩ := h; refine obd_go (t_B_chainAt hs _ _ _ _ hw hx1).1 ?_
  replace h := jon_or h; rcases h with ⟨rfl, h⟩ | ⟨a2, rfl, h⟩
  · refine jon_goN ?_
    obtain rfl := Option.some.inj h; exact ⟨rfl, trivial⟩
  · refine jon_goS ?_
    replace h := jgd_of h; obtain ⟨hb, h⟩ := h; refine jgd_go (c_job hb) ?_
    replace h := obd_of h; obtain ⟨x3, hx3, h⟩ := h; refine obd_go (t_Chain_madeAs hs _ _ _ _ hw hx3).1 ?_
    obtain rfl := Option.some.inj h; exact ⟨rfl, trivial⟩
set_option maxRecDepth 10000 in
set_option maxHeartbeats 4000000 in
theorem t_B_gathered {B : Nat} {SA : Nat → Nat} {h0 : Nat → Option JCell} (hs : CS B SA h0) : ∀ (v0 : Nat) (v1 : Option Nat) (v2 : Int32) (C : CT) (r : Int32) (C9 : CT), CW B C → c_B_gathered v0 v1 v2 C = some (r, C9) → g_B_gathered B v0 v1 v2 (ovC C h0, ck C) = some (r, (ovC C9 h0, ck C9)) ∧ CW B C9 := by
  intro v0 v1 v2 C r C9 hw h
  unfold c_B_gathered at h
  unfold g_B_gathered
  replace h := jon_or h; rcases h with ⟨rfl, h⟩ | ⟨a1, rfl, h⟩
  · refine jon_goN ?_
    obtain ⟨rfl, rfl⟩ := Prod.mk.inj (Option.some.inj h); exact ⟨rfl, hw⟩
  · refine jon_goS ?_
    replace h := ite_or h; rcases h with ⟨hc, h⟩ | ⟨hc, h⟩
    · refine ite_goT hc ?_
      obtain ⟨rfl, rfl⟩ := Prod.mk.inj (Option.some.inj h); exact ⟨rfl, hw⟩
    · refine ite_goF hc ?_
      replace h := obd_of h; obtain ⟨x2, hx2, h⟩ := h
      refine obd_go (cg_A rfl hx2) ?_
      replace h := obd_of h; obtain ⟨a3, rfl, h⟩ := h; refine obd_go rfl ?_
      replace h := obd_of h; obtain ⟨x4, hx4, h⟩ := h
      refine obd_go (ca_len hx4) ?_
      replace h := ite_or h; rcases h with ⟨hc, h⟩ | ⟨hc, h⟩
      · refine ite_goT hc ?_
        replace h := obd_of h; obtain ⟨x5, hx5, h⟩ := h
        refine obd_go (cg_A rfl hx5) ?_
        replace h := obd_of h; obtain ⟨a6, rfl, h⟩ := h; refine obd_go rfl ?_
        replace h := obd_of h; obtain ⟨C7, hC7, h⟩ := h
        refine obd_go (cq_A hw hC7).1 ?_; replace hw := (cq_A (h0 := h0) hw hC7).2
        obtain ⟨rfl, rfl⟩ := Prod.mk.inj (Option.some.inj h); exact ⟨rfl, hw⟩
      · refine ite_goF hc ?_
        obtain ⟨rfl, rfl⟩ := Prod.mk.inj (Option.some.inj h); exact ⟨rfl, hw⟩
set_option maxRecDepth 10000 in
set_option maxHeartbeats 4000000 in
theorem t_B_gather_77 {N : Nat} {B : Nat} {SA : Nat → Nat} {h0 : Nat → Option JCell} (hs : CS B SA h0) {k9 : Nat → Int32 → Int32 → CT → Option (Int32 × CT)} {k9G : Nat → Int32 → Int32 → JMem → Option (Int32 × JMem)} (i9 : ∀ (v0 : Nat) (v2 : Int32) (v3 : Int32) (C : CT) (r : Int32) (C9 : CT), CW B C → k9 v0 v2 v3 C = some (r, C9) → k9G v0 v2 v3 (ovC C h0, ck C) = some (r, (ovC C9 h0, ck C9)) ∧ CW B C9) {k34 : Nat → Int32 → Int32 → Option Nat → Int32 → CT → Option (Int32 × CT)} {k34G : Nat → Int32 → Int32 → Option Nat → Int32 → JMem → Option (Int32 × JMem)} (i34 : ∀ (v0 : Nat) (v2 : Int32) (v3 : Int32) (v4 : Option Nat) (v5 : Int32) (C : CT) (r : Int32) (C9 : CT), CW B C → k34 v0 v2 v3 v4 v5 C = some (r, C9) → k34G v0 v2 v3 v4 v5 (ovC C h0, ck C) = some (r, (ovC C9 h0, ck C9)) ∧ CW B C9) : ∀ (v0 : Nat) (v3 : Int32) (v4 : Nat) (v5 : Int32) (s0 : Int32) (C : CT) (r : Int32) (C9 : CT), CW B C → c_B_gather_77 N k9 k34 v0 v3 v4 v5 s0 C = some (r, C9) → g_B_gather_77 N B k9G k34G v0 v3 v4 v5 s0 (ovC C h0, ck C) = some (r, (ovC C9 h0, ck C9)) ∧ CW B C9 := by
  intro v0 v3 v4 v5 s0 C r C9 hw h
  unfold c_B_gather_77 at h
  unfold g_B_gather_77
  exact i34 _ _ _ _ _ _ _ _ hw h
set_option maxRecDepth 10000 in
set_option maxHeartbeats 4000000 in
theorem t_B_gather_84 {N : Nat} {B : Nat} {SA : Nat → Nat} {h0 : Nat → Option JCell} (hs : CS B SA h0) {k9 : Nat → Int32 → Int32 → CT → Option (Int32 × CT)} {k9G : Nat → Int32 → Int32 → JMem → Option (Int32 × JMem)} (i9 : ∀ (v0 : Nat) (v2 : Int32) (v3 : Int32) (C : CT) (r : Int32) (C9 : CT), CW B C → k9 v0 v2 v3 C = some (r, C9) → k9G v0 v2 v3 (ovC C h0, ck C) = some (r, (ovC C9 h0, ck C9)) ∧ CW B C9) : ∀ (v0 : Nat) (v2 : Int32) (v3 : Int32) (C : CT) (r : Int32) (C9 : CT), CW B C → c_B_gather_84 N k9 v0 v2 v3 C = some (r, C9) → g_B_gather_84 N B k9G v0 v2 v3 (ovC C h0, ck C) = some (r, (ovC C9 h0, ck C9)) ∧ CW B C9 := by
  intro v0 v2 v3 C r C9 hw h
  unfold c_B_gather_84 at h
  unfold g_B_gather_84
  exact i9 _ _ _ _ _ _ hw h
set_option maxRecDepth 10000 in
set_option maxHeartbeats 4000000 in
theorem t_B_gather_34 {N : Nat} {B : Nat} {SA : Nat → Nat} {h0 : Nat → Option JCell} (hs : CS B SA h0) {k9 : Nat → Int32 → Int32 → CT → Option (Int32 × CT)} {k9G : Nat → Int32 → Int32 → JMem → Option (Int32 × JMem)} (i9 : ∀ (v0 : Nat) (v2 : Int32) (v3 : Int32) (C : CT) (r : Int32) (C9 : CT), CW B C → k9 v0 v2 v3 C = some (r, C9) → k9G v0 v2 v3 (ovC C h0, ck C) = some (r, (ovC C9 h0, ck C9)) ∧ CW B C9) : ∀ (n : Nat), ∀ (v0 : Nat) (v2 : Int32) (v3 : Int32) (v4 : Option Nat) (v5 : Int32) (C : CT) (r : Int32) (C9 : CT), CW B C → c_B_gather_34 N k9 n v0 v2 v3 v4 v5 C = some (r, C9) → g_B_gather_34 N B k9G n v0 v2 v3 v4 v5 (ovC C h0, ck C) = some (r, (ovC C9 h0, ck C9)) ∧ CW B C9 := by
  intro n
  induction n with
  | zero =>
    intro v0 v2 v3 v4 v5 C r C9 hw h
    unfold c_B_gather_34 at h
    cases h
  | succ n ih =>
    intro v0 v2 v3 v4 v5 C r C9 hw h
    unfold c_B_gather_34 at h
    unfold g_B_gather_34
    replace h := jon_or h; rcases h with ⟨rfl, h⟩ | ⟨a1, rfl, h⟩
    · refine jon_goN ?_
      exact t_B_gather_84 hs i9 _ _ _ _ _ _ hw h
    · refine jon_goS ?_
      replace h := obd_of h; obtain ⟨x2, hx2, h⟩ := h
      refine obd_go (cg_I rfl hx2) ?_
      replace h := ite_or h; rcases h with ⟨hc, h⟩ | ⟨hc, h⟩
      · refine ite_goT hc ?_
        exact t_B_gather_84 hs i9 _ _ _ _ _ _ hw h
      · refine ite_goF hc ?_
        replace h := jgd_of h; obtain ⟨hb, h⟩ := h; refine jgd_go (c_job hb) ?_
        replace h := obd_of h; obtain ⟨x3, hx3, h⟩ := h; refine obd_go (t_Chain_memberAt hs _ _ _ _ hw hx3).1 ?_
        replace h := jon_or h; rcases h with ⟨rfl, h⟩ | ⟨a4, rfl, h⟩
        · refine jon_goN ?_
          exact t_B_gather_77 hs i9 ih _ _ _ _ _ _ _ _ hw h
        · refine jon_goS ?_
          replace h := obd_of h; obtain ⟨x5, hx5, h⟩ := h
          refine obd_go (cg_A rfl hx5) ?_
          replace h := jgd_of h; obtain ⟨hb, h⟩ := h; refine jgd_go (c_job hb) ?_
          replace h := cbd2_of h; obtain ⟨x6, C7, hx6, h⟩ := h; have hq := (t_B_gathered hs _ _ _ _ _ _ hw hx6); refine jbd2_go hq.1 ?_; replace hw := hq.2
          exact t_B_gather_77 hs i9 ih _ _ _ _ _ _ _ _ hw h
set_option maxRecDepth 10000 in
set_option maxHeartbeats 4000000 in
theorem t_B_gather_9 {N : Nat} {B : Nat} {SA : Nat → Nat} {h0 : Nat → Option JCell} (hs : CS B SA h0) : ∀ (n : Nat), ∀ (v0 : Nat) (v2 : Int32) (v3 : Int32) (C : CT) (r : Int32) (C9 : CT), CW B C → c_B_gather_9 N n v0 v2 v3 C = some (r, C9) → g_B_gather_9 N B n v0 v2 v3 (ovC C h0, ck C) = some (r, (ovC C9 h0, ck C9)) ∧ CW B C9 := by
  intro n
  induction n with
  | zero =>
    intro v0 v2 v3 C r C9 hw h
    unfold c_B_gather_9 at h
    cases h
  | succ n ih =>
    intro v0 v2 v3 C r C9 hw h
    unfold c_B_gather_9 at h
    unfold g_B_gather_9
    replace h := ite_or h; rcases h with ⟨hc, h⟩ | ⟨hc, h⟩
    · refine ite_goT hc ?_
      obtain ⟨rfl, rfl⟩ := Prod.mk.inj (Option.some.inj h); exact ⟨rfl, hw⟩
    · refine ite_goF hc ?_
      replace h := obd_of h; obtain ⟨x1, hx1, h⟩ := h
      refine obd_go (cg_A rfl hx1) ?_
      replace h := obd_of h; obtain ⟨a2, rfl, h⟩ := h; refine obd_go rfl ?_
      replace h := obd_of h; obtain ⟨x3, hx3, h⟩ := h
      refine obd_go (ca_len hx3) ?_
      replace h := ite_or h; rcases h with ⟨hc, h⟩ | ⟨hc, h⟩
      · refine ite_goT hc ?_
        obtain ⟨rfl, rfl⟩ := Prod.mk.inj (Option.some.inj h); exact ⟨rfl, hw⟩
      · refine ite_goF hc ?_
        replace h := obd_of h; obtain ⟨x4, hx4, h⟩ := h
        refine obd_go (cg_A rfl hx4) ?_
        replace h := obd_of h; obtain ⟨a5, rfl, h⟩ := h; refine obd_go rfl ?_
        replace h := obd_of h; obtain ⟨x6, hx6, h⟩ := h
        refine obd_go (ca_A hx6) ?_
        exact t_B_gather_34 hs ih _ _ _ _ _ _ _ _ _ hw h
set_option maxRecDepth 10000 in
set_option maxHeartbeats 4000000 in
theorem t_B_gather {N : Nat} {B : Nat} {SA : Nat → Nat} {h0 : Nat → Option JCell} (hs : CS B SA h0) : ∀ (v0 : Nat) (v1 : Option Nat) (C : CT) (r : Int32) (C9 : CT), CW B C → c_B_gather N v0 v1 C = some (r, C9) → g_B_gather N B v0 v1 (ovC C h0, ck C) = some (r, (ovC C9 h0, ck C9)) ∧ CW B C9 := by
  intro v0 v1 C r C9 hw h
  unfold c_B_gather at h
  unfold g_B_gather
  replace h := jgd_of h; obtain ⟨hb, h⟩ := h; refine jgd_go (c_job hb) ?_
  replace h := cbd2_of h; obtain ⟨x1, C2, hx1, h⟩ := h; have hq := (t_B_gathered hs _ _ _ _ _ _ hw hx1); refine jbd2_go hq.1 ?_; replace hw := hq.2
  exact t_B_gather_9 hs _ _ _ _ _ _ _ hw h
set_option maxRecDepth 10000 in
set_option maxHeartbeats 4000000 in
theorem t_Chain_rowAt {B : Nat} {SA : Nat → Nat} {h0 : Nat → Option JCell} (hs : CS B SA h0) : ∀ (v0 : Nat) (v1 : Int32) (C : CT) (r : Option Nat), CW B C → c_Chain_rowAt v0 v1 C = some r → g_Chain_rowAt v0 v1 (ovC C h0) = some r ∧ True := by
  intro v0 v1 C r hw h
  unfold c_Chain_rowAt at h
  unfold g_Chain_rowAt
  replace h := obd_of h; obtain ⟨x1, hx1, h⟩ := h
  refine obd_go (cg_I rfl hx1) ?_
  replace h := ite_or h; rcases h with ⟨hc, h⟩ | ⟨hc, h⟩
  · refine ite_goT hc ?_
    replace h := obd_of h; obtain ⟨x2, hx2, h⟩ := h
    refine obd_go (cg_I rfl hx2) ?_
    replace h := jgd_of h; obtain ⟨hb, h⟩ := h; refine jgd_go (c_job hb) ?_
    replace h := obd_of h; obtain ⟨x3, hx3, h⟩ := h; refine obd_go (t_Chain_loopAt hs _ _ _ _ hw hx3).1 ?_
    replace h := jon_or h; rcases h with ⟨rfl, h⟩ | ⟨a4, rfl, h⟩
    · refine jon_goN ?_
      obtain rfl := Option.some.inj h; exact ⟨rfl, trivial⟩
    · refine jon_goS ?_
      replace h := obd_of h; obtain ⟨x5, hx5, h⟩ := h
      refine obd_go (cg_A rfl hx5) ?_
      obtain rfl := Option.some.inj h; exact ⟨rfl, trivial⟩
  · refine ite_goF hc ?_
    replace h := jgd_of h; obtain ⟨hb, h⟩ := h; refine jgd_go (c_job hb) ?_
    replace h := obd_of h; obtain ⟨x6, hx6, h⟩ := h; refine obd_go (t_Chain_memberAt hs _ _ _ _ hw hx6).1 ?_
    replace h := jon_or h; rcases h with ⟨rfl, h⟩ | ⟨a7, rfl, h⟩
    · refine jon_goN ?_
      obtain rfl := Option.some.inj h; exact ⟨rfl, trivial⟩
    · refine jon_goS ?_
      replace h := ite_or h; rcases h with ⟨hc, h⟩ | ⟨hc, h⟩
      · refine ite_goT hc ?_
        replace h := obd_of h; obtain ⟨x8, hx8, h⟩ := h
        refine obd_go (cg_A rfl hx8) ?_
        obtain rfl := Option.some.inj h; exact ⟨rfl, trivial⟩
      · refine ite_goF hc ?_
        replace h := obd_of h; obtain ⟨x9, hx9, h⟩ := h
        refine obd_go (cg_A rfl hx9) ?_
        obtain rfl := Option.some.inj h; exact ⟨rfl, trivial⟩
set_option maxRecDepth 10000 in
set_option maxHeartbeats 4000000 in
theorem t_Chain_rowCount {B : Nat} {SA : Nat → Nat} {h0 : Nat → Option JCell} (hs : CS B SA h0) : ∀ (v0 : Nat) (C : CT) (r : Int32), CW B C → c_Chain_rowCount v0 C = some r → g_Chain_rowCount v0 (ovC C h0) = some r ∧ True := by
  intro v0 C r hw h
  unfold c_Chain_rowCount at h
  unfold g_Chain_rowCount
  replace h := obd_of h; obtain ⟨x1, hx1, h⟩ := h
  refine obd_go (cg_I rfl hx1) ?_
  replace h := obd_of h; obtain ⟨x2, hx2, h⟩ := h
  refine obd_go (cg_I rfl hx2) ?_
  obtain rfl := Option.some.inj h; exact ⟨rfl, trivial⟩
set_option maxRecDepth 10000 in
set_option maxHeartbeats 4000000 in
theorem t_Row_save_35 {N : Nat} {B : Nat} {SA : Nat → Nat} {h0 : Nat → Option JCell} (hs : CS B SA h0) {k2 : Nat → Option Nat → Int32 → Int32 → CT → Option (Int32 × CT)} {k2G : Nat → Option Nat → Int32 → Int32 → JMem → Option (Int32 × JMem)} (i2 : ∀ (v0 : Nat) (v1 : Option Nat) (v2 : Int32) (v3 : Int32) (C : CT) (r : Int32) (C9 : CT), CW B C → k2 v0 v1 v2 v3 C = some (r, C9) → k2G v0 v1 v2 v3 (ovC C h0, ck C) = some (r, (ovC C9 h0, ck C9)) ∧ CW B C9) : ∀ (v0 : Nat) (v1 : Option Nat) (v2 : Int32) (v3 : Int32) (C : CT) (r : Int32) (C9 : CT), CW B C → c_Row_save_35 N k2 v0 v1 v2 v3 C = some (r, C9) → g_Row_save_35 N B k2G v0 v1 v2 v3 (ovC C h0, ck C) = some (r, (ovC C9 h0, ck C9)) ∧ CW B C9 := by
  intro v0 v1 v2 v3 C r C9 hw h
  unfold c_Row_save_35 at h
  unfold g_Row_save_35
  exact i2 _ _ _ _ _ _ _ hw h
set_option maxRecDepth 10000 in
set_option maxHeartbeats 4000000 in
theorem t_Row_save_2 {N : Nat} {B : Nat} {SA : Nat → Nat} {h0 : Nat → Option JCell} (hs : CS B SA h0) : ∀ (n : Nat), ∀ (v0 : Nat) (v1 : Option Nat) (v2 : Int32) (v3 : Int32) (C : CT) (r : Int32) (C9 : CT), CW B C → c_Row_save_2 N n v0 v1 v2 v3 C = some (r, C9) → g_Row_save_2 N B n v0 v1 v2 v3 (ovC C h0, ck C) = some (r, (ovC C9 h0, ck C9)) ∧ CW B C9 := by
  intro n
  induction n with
  | zero =>
    intro v0 v1 v2 v3 C r C9 hw h
    unfold c_Row_save_2 at h
    cases h
  | succ n ih =>
    intro v0 v1 v2 v3 C r C9 hw h
    unfold c_Row_save_2 at h
    unfold g_Row_save_2
    replace h := obd_of h; obtain ⟨x1, hx1, h⟩ := h
    refine obd_go (cg_A rfl hx1) ?_
    replace h := obd_of h; obtain ⟨a2, rfl, h⟩ := h; refine obd_go rfl ?_
    replace h := obd_of h; obtain ⟨x3, hx3, h⟩ := h
    refine obd_go (ca_len hx3) ?_
    replace h := ite_or h; rcases h with ⟨hc, h⟩ | ⟨hc, h⟩
    · refine ite_goT hc ?_
      replace h := obd_of h; obtain ⟨x4, hx4, h⟩ := h
      refine obd_go (cg_A rfl hx4) ?_
      replace h := obd_of h; obtain ⟨a5, rfl, h⟩ := h; refine obd_go rfl ?_
      replace h := obd_of h; obtain ⟨x6, hx6, h⟩ := h
      refine obd_go (ca_len hx6) ?_
      obtain ⟨rfl, rfl⟩ := Prod.mk.inj (Option.some.inj h); exact ⟨rfl, hw⟩
    · refine ite_goF hc ?_
      replace h := ite_or h; rcases h with ⟨hc, h⟩ | ⟨hc, h⟩
      · refine ite_goT hc ?_
        exact t_Row_save_35 hs ih _ _ _ _ _ _ _ hw h
      · refine ite_goF hc ?_
        replace h := obd_of h; obtain ⟨a7, rfl, h⟩ := h; refine obd_go rfl ?_
        replace h := obd_of h; obtain ⟨x8, hx8, h⟩ := h
        refine obd_go (ca_len hx8) ?_
        replace h := ite_or h; rcases h with ⟨hc, h⟩ | ⟨hc, h⟩
        · refine ite_goT hc ?_
          exact t_Row_save_35 hs ih _ _ _ _ _ _ _ hw h
        · refine ite_goF hc ?_
          replace h := jgd_of h; obtain ⟨hb, h⟩ := h; refine jgd_go (c_job hb) ?_
          replace h := obd_of h; obtain ⟨x9, hx9, h⟩ := h; refine obd_go (t_Row_at hs _ _ _ _ hw hx9).1 ?_
          replace h := obd_of h; obtain ⟨C10, hC10, h⟩ := h
          refine obd_go (cq_J hw hC10).1 ?_; replace hw := (cq_J (h0 := h0) hw hC10).2
          exact t_Row_save_35 hs ih _ _ _ _ _ _ _ hw h
set_option maxRecDepth 10000 in
set_option maxHeartbeats 4000000 in
theorem t_Row_save {N : Nat} {B : Nat} {SA : Nat → Nat} {h0 : Nat → Option JCell} (hs : CS B SA h0) : ∀ (v0 : Nat) (v1 : Option Nat) (v2 : Int32) (C : CT) (r : Int32) (C9 : CT), CW B C → c_Row_save N v0 v1 v2 C = some (r, C9) → g_Row_save N B v0 v1 v2 (ovC C h0, ck C) = some (r, (ovC C9 h0, ck C9)) ∧ CW B C9 := by
  intro v0 v1 v2 C r C9 hw h
  unfold c_Row_save at h
  unfold g_Row_save
  exact t_Row_save_2 hs _ _ _ _ _ _ _ _ hw h
set_option maxRecDepth 10000 in
set_option maxHeartbeats 4000000 in
theorem t_Chain_save_38 {N : Nat} {B : Nat} {SA : Nat → Nat} {h0 : Nat → Option JCell} (hs : CS B SA h0) {k5 : Nat → Option Nat → Int32 → Int32 → CT → Option (Int32 × CT)} {k5G : Nat → Option Nat → Int32 → Int32 → JMem → Option (Int32 × JMem)} (i5 : ∀ (v0 : Nat) (v1 : Option Nat) (v3 : Int32) (v4 : Int32) (C : CT) (r : Int32) (C9 : CT), CW B C → k5 v0 v1 v3 v4 C = some (r, C9) → k5G v0 v1 v3 v4 (ovC C h0, ck C) = some (r, (ovC C9 h0, ck C9)) ∧ CW B C9) : ∀ (v0 : Nat) (v1 : Option Nat) (v4 : Int32) (s0 : Int32) (C : CT) (r : Int32) (C9 : CT), CW B C → c_Chain_save_38 N k5 v0 v1 v4 s0 C = some (r, C9) → g_Chain_save_38 N B k5G v0 v1 v4 s0 (ovC C h0, ck C) = some (r, (ovC C9 h0, ck C9)) ∧ CW B C9 := by
  intro v0 v1 v4 s0 C r C9 hw h
  unfold c_Chain_save_38 at h
  unfold g_Chain_save_38
  exact i5 _ _ _ _ _ _ _ hw h
set_option maxRecDepth 10000 in
set_option maxHeartbeats 4000000 in
theorem t_Chain_save_5 {N : Nat} {B : Nat} {SA : Nat → Nat} {h0 : Nat → Option JCell} (hs : CS B SA h0) : ∀ (n : Nat), ∀ (v0 : Nat) (v1 : Option Nat) (v3 : Int32) (v4 : Int32) (C : CT) (r : Int32) (C9 : CT), CW B C → c_Chain_save_5 N n v0 v1 v3 v4 C = some (r, C9) → g_Chain_save_5 N B n v0 v1 v3 v4 (ovC C h0, ck C) = some (r, (ovC C9 h0, ck C9)) ∧ CW B C9 := by
  intro n
  induction n with
  | zero =>
    intro v0 v1 v3 v4 C r C9 hw h
    unfold c_Chain_save_5 at h
    cases h
  | succ n ih =>
    intro v0 v1 v3 v4 C r C9 hw h
    unfold c_Chain_save_5 at h
    unfold g_Chain_save_5
    replace h := jgd_of h; obtain ⟨hb, h⟩ := h; refine jgd_go (c_job hb) ?_
    replace h := obd_of h; obtain ⟨x1, hx1, h⟩ := h; refine obd_go (t_Chain_rowCount hs _ _ _ hw hx1).1 ?_
    replace h := ite_or h; rcases h with ⟨hc, h⟩ | ⟨hc, h⟩
    · refine ite_goT hc ?_
      obtain ⟨rfl, rfl⟩ := Prod.mk.inj (Option.some.inj h); exact ⟨rfl, hw⟩
    · refine ite_goF hc ?_
      replace h := jgd_of h; obtain ⟨hb, h⟩ := h; refine jgd_go (c_job hb) ?_
      replace h := obd_of h; obtain ⟨x2, hx2, h⟩ := h; refine obd_go (t_Chain_rowAt hs _ _ _ _ hw hx2).1 ?_
      replace h := jon_or h; rcases h with ⟨rfl, h⟩ | ⟨a3, rfl, h⟩
      · refine jon_goN ?_
        exact t_Chain_save_38 hs ih _ _ _ _ _ _ _ hw h
      · refine jon_goS ?_
        replace h := jgd_of h; obtain ⟨hb, h⟩ := h; refine jgd_go (c_job hb) ?_
        replace h := cbd2_of h; obtain ⟨x4, C5, hx4, h⟩ := h; have hq := (t_Row_save hs _ _ _ _ _ _ hw hx4); refine jbd2_go hq.1 ?_; replace hw := hq.2
        exact t_Chain_save_38 hs ih _ _ _ _ _ _ _ hw h
set_option maxRecDepth 10000 in
set_option maxHeartbeats 4000000 in
theorem t_Chain_save {N : Nat} {B : Nat} {SA : Nat → Nat} {h0 : Nat → Option JCell} (hs : CS B SA h0) : ∀ (v0 : Nat) (v1 : Option Nat) (v2 : Int32) (C : CT) (r : Int32) (C9 : CT), CW B C → c_Chain_save N v0 v1 v2 C = some (r, C9) → g_Chain_save N B v0 v1 v2 (ovC C h0, ck C) = some (r, (ovC C9 h0, ck C9)) ∧ CW B C9 := by
  intro v0 v1 v2 C r C9 hw h
  unfold c_Chain_save at h
  unfold g_Chain_save
  exact t_Chain_save_5 hs _ _ _ _ _ _ _ _ hw h
set_option maxRecDepth 10000 in
set_option maxHeartbeats 4000000 in
theorem t_Chain_valueCount_31 {N : Nat} {B : Nat} {SA : Nat → Nat} {h0 : Nat → Option JCell} (hs : CS B SA h0) {k4 : Nat → Int32 → Int32 → CT → Option (Int32)} {k4G : Nat → Int32 → Int32 → (Nat → Option JCell) → Option Int32} (i4 : ∀ (v0 : Nat) (v1 : Int32) (v2 : Int32) (C : CT) (r : Int32), CW B C → k4 v0 v1 v2 C = some r → k4G v0 v1 v2 (ovC C h0) = some r ∧ True) : ∀ (v0 : Nat) (v2 : Int32) (s0 : Int32) (s1 : Int32) (C : CT) (r : Int32), CW B C → c_Chain_valueCount_31 N k4 v0 v2 s0 s1 C = some r → g_Chain_valueCount_31 N k4G v0 v2 s0 s1 (ovC C h0) = some r ∧ True := by
  intro v0 v2 s0 s1 C r hw h
  unfold c_Chain_valueCount_31 at h
  unfold g_Chain_valueCount_31
  exact i4 _ _ _ _ _ hw h
set_option maxRecDepth 10000 in
set_option maxHeartbeats 4000000 in
theorem t_Chain_valueCount_4 {N : Nat} {B : Nat} {SA : Nat → Nat} {h0 : Nat → Option JCell} (hs : CS B SA h0) : ∀ (n : Nat), ∀ (v0 : Nat) (v1 : Int32) (v2 : Int32) (C : CT) (r : Int32), CW B C → c_Chain_valueCount_4 N n v0 v1 v2 C = some r → g_Chain_valueCount_4 N n v0 v1 v2 (ovC C h0) = some r ∧ True := by
  intro n
  induction n with
  | zero =>
    intro v0 v1 v2 C r hw h
    unfold c_Chain_valueCount_4 at h
    cases h
  | succ n ih =>
    intro v0 v1 v2 C r hw h
    unfold c_Chain_valueCount_4 at h
    unfold g_Chain_valueCount_4
    replace h := jgd_of h; obtain ⟨hb, h⟩ := h; refine jgd_go (c_job hb) ?_
    replace h := obd_of h; obtain ⟨x1, hx1, h⟩ := h; refine obd_go (t_Chain_rowCount hs _ _ _ hw hx1).1 ?_
    replace h := ite_or h; rcases h with ⟨hc, h⟩ | ⟨hc, h⟩
    · refine ite_goT hc ?_
      obtain rfl := Option.some.inj h; exact ⟨rfl, trivial⟩
    · refine ite_goF hc ?_
      replace h := jgd_of h; obtain ⟨hb, h⟩ := h; refine jgd_go (c_job hb) ?_
      replace h := obd_of h; obtain ⟨x2, hx2, h⟩ := h; refine obd_go (t_Chain_rowAt hs _ _ _ _ hw hx2).1 ?_
      replace h := jon_or h; rcases h with ⟨rfl, h⟩ | ⟨a3, rfl, h⟩
      · refine jon_goN ?_
        exact t_Chain_valueCount_31 hs ih _ _ _ _ _ _ hw h
      · refine jon_goS ?_
        replace h := jgd_of h; obtain ⟨hb, h⟩ := h; refine jgd_go (c_job hb) ?_
        replace h := obd_of h; obtain ⟨x4, hx4, h⟩ := h; refine obd_go (t_Row_size hs _ _ _ hw hx4).1 ?_
        exact t_Chain_valueCount_31 hs ih _ _ _ _ _ _ hw h
set_option maxRecDepth 10000 in
set_option maxHeartbeats 4000000 in
theorem t_Chain_valueCount {N : Nat} {B : Nat} {SA : Nat → Nat} {h0 : Nat → Option JCell} (hs : CS B SA h0) : ∀ (v0 : Nat) (C : CT) (r : Int32), CW B C → c_Chain_valueCount N v0 C = some r → g_Chain_valueCount N v0 (ovC C h0) = some r ∧ True := by
  intro v0 C r hw h
  unfold c_Chain_valueCount at h
  unfold g_Chain_valueCount
  exact t_Chain_valueCount_4 hs _ _ _ _ _ _ hw h
set_option maxRecDepth 10000 in
set_option maxHeartbeats 4000000 in
theorem t_Kept_init_36 {B : Nat} {SA : Nat → Nat} {h0 : Nat → Option JCell} (hs : CS B SA h0) : ∀ (s0 : Int32) (s1 : Nat) (C C9 : CT), CW B C → c_Kept_init_36 s0 s1 C = some C9 → g_Kept_init_36 B s0 s1 (ovC C h0, ck C) = some (ovC C9 h0, ck C9) ∧ CW B C9 := by
  intro s0 s1 C C9 hw h
  unfold c_Kept_init_36 at h
  unfold g_Kept_init_36
  replace h := cbd2_of h; obtain ⟨a1, C2, ha1, h⟩ := h; refine jbd2_go (cn_J hw ha1).1 ?_; replace hw := (cn_J (h0 := h0) hw ha1).2
  replace h := obd_of h; obtain ⟨C3, hC3, h⟩ := h
  refine obd_go (cp_A rfl hw hC3).1 ?_; replace hw := (cp_A (h0 := h0) rfl hw hC3).2
  obtain rfl := Option.some.inj h; exact ⟨rfl, hw⟩
set_option maxRecDepth 10000 in
set_option maxHeartbeats 4000000 in
theorem t_Kept_init_21 {B : Nat} {SA : Nat → Nat} {h0 : Nat → Option JCell} (hs : CS B SA h0) : ∀ (v0 : Nat) (v3 : Int32) (s0 : Int32) (s1 : Nat) (C C9 : CT), CW B C → c_Kept_init_21 v0 v3 s0 s1 C = some C9 → g_Kept_init_21 B v0 v3 s0 s1 (ovC C h0, ck C) = some (ovC C9 h0, ck C9) ∧ CW B C9 := by
  intro v0 v3 s0 s1 C C9 hw h
  unfold c_Kept_init_21 at h
  unfold g_Kept_init_21
  replace h := cbd2_of h; obtain ⟨a1, C2, ha1, h⟩ := h; refine jbd2_go (cn_I hw ha1).1 ?_; replace hw := (cn_I (h0 := h0) hw ha1).2
  replace h := obd_of h; obtain ⟨C3, hC3, h⟩ := h
  refine obd_go (cp_A rfl hw hC3).1 ?_; replace hw := (cp_A (h0 := h0) rfl hw hC3).2
  replace h := ite_or h; rcases h with ⟨hc, h⟩ | ⟨hc, h⟩
  · refine ite_goT hc ?_
    exact t_Kept_init_36 hs _ _ _ _ hw h
  · refine ite_goF hc ?_
    exact t_Kept_init_36 hs _ _ _ _ hw h
set_option maxRecDepth 10000 in
set_option maxHeartbeats 4000000 in
theorem t_Kept_init {B : Nat} {SA : Nat → Nat} {h0 : Nat → Option JCell} (hs : CS B SA h0) : ∀ (v0 : Nat) (v1 : Option Nat) (v2 : Int32) (v3 : Int32) (C C9 : CT), CW B C → c_Kept_init v0 v1 v2 v3 C = some C9 → g_Kept_init B v0 v1 v2 v3 (ovC C h0, ck C) = some (ovC C9 h0, ck C9) ∧ CW B C9 := by
  intro v0 v1 v2 v3 C C9 hw h
  unfold c_Kept_init at h
  unfold g_Kept_init
  replace h := obd_of h; obtain ⟨C1, hC1, h⟩ := h
  refine obd_go (cp_A rfl hw hC1).1 ?_; replace hw := (cp_A (h0 := h0) rfl hw hC1).2
  replace h := ite_or h; rcases h with ⟨hc, h⟩ | ⟨hc, h⟩
  · refine ite_goT hc ?_
    exact t_Kept_init_21 hs _ _ _ _ _ _ hw h
  · refine ite_goF hc ?_
    exact t_Kept_init_21 hs _ _ _ _ _ _ hw h
set_option maxRecDepth 10000 in
set_option maxHeartbeats 4000000 in
theorem t_Kept_shape {B : Nat} {SA : Nat → Nat} {h0 : Nat → Option JCell} (hs : CS B SA h0) : ∀ (v0 : Nat) (v1 : Int32) (v2 : Option Nat) (C C9 : CT), CW B C → c_Kept_shape v0 v1 v2 C = some C9 → g_Kept_shape B v0 v1 v2 (ovC C h0, ck C) = some (ovC C9 h0, ck C9) ∧ CW B C9 := by
  intro v0 v1 v2 C C9 hw h
  unfold c_Kept_shape at h
  unfold g_Kept_shape
  replace h := ite_or h; rcases h with ⟨hc, h⟩ | ⟨hc, h⟩
  · refine ite_goT hc ?_
    obtain rfl := Option.some.inj h; exact ⟨rfl, hw⟩
  · refine ite_goF hc ?_
    replace h := obd_of h; obtain ⟨x1, hx1, h⟩ := h
    refine obd_go (cg_A rfl hx1) ?_
    replace h := obd_of h; obtain ⟨a2, rfl, h⟩ := h; refine obd_go rfl ?_
    replace h := obd_of h; obtain ⟨x3, hx3, h⟩ := h
    refine obd_go (ca_len hx3) ?_
    replace h := ite_or h; rcases h with ⟨hc, h⟩ | ⟨hc, h⟩
    · refine ite_goT hc ?_
      obtain rfl := Option.some.inj h; exact ⟨rfl, hw⟩
    · refine ite_goF hc ?_
      replace h := obd_of h; obtain ⟨x4, hx4, h⟩ := h
      refine obd_go (cg_A rfl hx4) ?_
      replace h := obd_of h; obtain ⟨a5, rfl, h⟩ := h; refine obd_go rfl ?_
      replace h := obd_of h; obtain ⟨x6, hx6, h⟩ := h
      refine obd_go (cg_I rfl hx6) ?_
      replace h := obd_of h; obtain ⟨a7, rfl, h⟩ := h; refine obd_go rfl ?_
      replace h := obd_of h; obtain ⟨C8, hC8, h⟩ := h
      refine obd_go (cq_I hw hC8).1 ?_; replace hw := (cq_I (h0 := h0) hw hC8).2
      replace h := obd_of h; obtain ⟨x9, hx9, h⟩ := h
      refine obd_go (cg_A rfl hx9) ?_
      replace h := obd_of h; obtain ⟨x10, hx10, h⟩ := h
      refine obd_go (cg_I rfl hx10) ?_
      replace h := obd_of h; obtain ⟨a11, rfl, h⟩ := h; refine obd_go rfl ?_
      replace h := obd_of h; obtain ⟨C12, hC12, h⟩ := h
      refine obd_go (cq_I hw hC12).1 ?_; replace hw := (cq_I (h0 := h0) hw hC12).2
      replace h := obd_of h; obtain ⟨x13, hx13, h⟩ := h
      refine obd_go (cg_A rfl hx13) ?_
      replace h := obd_of h; obtain ⟨x14, hx14, h⟩ := h
      refine obd_go (cg_I rfl hx14) ?_
      replace h := obd_of h; obtain ⟨a15, rfl, h⟩ := h; refine obd_go rfl ?_
      replace h := obd_of h; obtain ⟨C16, hC16, h⟩ := h
      refine obd_go (cq_I hw hC16).1 ?_; replace hw := (cq_I (h0 := h0) hw hC16).2
      obtain rfl := Option.some.inj h; exact ⟨rfl, hw⟩
set_option maxRecDepth 10000 in
set_option maxHeartbeats 4000000 in
theorem t_B_keep_85 {N : Nat} {B : Nat} {SA : Nat → Nat} {h0 : Nat → Option JCell} (hs : CS B SA h0) {k43 : Nat → Nat → Int32 → Int32 → Int32 → CT → Option (Int32 × CT)} {k43G : Nat → Nat → Int32 → Int32 → Int32 → JMem → Option (Int32 × JMem)} (i43 : ∀ (v0 : Nat) (v2 : Nat) (v3 : Int32) (v4 : Int32) (v5 : Int32) (C : CT) (r : Int32) (C9 : CT), CW B C → k43 v0 v2 v3 v4 v5 C = some (r, C9) → k43G v0 v2 v3 v4 v5 (ovC C h0, ck C) = some (r, (ovC C9 h0, ck C9)) ∧ CW B C9) : ∀ (v0 : Nat) (v2 : Nat) (v3 : Int32) (v5 : Int32) (s0 : Int32) (s1 : Int32) (C : CT) (r : Int32) (C9 : CT), CW B C → c_B_keep_85 N k43 v0 v2 v3 v5 s0 s1 C = some (r, C9) → g_B_keep_85 N B k43G v0 v2 v3 v5 s0 s1 (ovC C h0, ck C) = some (r, (ovC C9 h0, ck C9)) ∧ CW B C9 := by
  intro v0 v2 v3 v5 s0 s1 C r C9 hw h
  unfold c_B_keep_85 at h
  unfold g_B_keep_85
  exact i43 _ _ _ _ _ _ _ _ hw h
set_option maxRecDepth 10000 in
set_option maxHeartbeats 4000000 in
theorem t_B_keep_172 {N : Nat} {B : Nat} {SA : Nat → Nat} {h0 : Nat → Option JCell} (hs : CS B SA h0) {k113 : Nat → Int32 → Nat → Int32 → Int32 → CT → Option (Int32 × CT)} {k113G : Nat → Int32 → Nat → Int32 → Int32 → JMem → Option (Int32 × JMem)} (i113 : ∀ (v0 : Nat) (v3 : Int32) (v5 : Nat) (v6 : Int32) (v7 : Int32) (C : CT) (r : Int32) (C9 : CT), CW B C → k113 v0 v3 v5 v6 v7 C = some (r, C9) → k113G v0 v3 v5 v6 v7 (ovC C h0, ck C) = some (r, (ovC C9 h0, ck C9)) ∧ CW B C9) : ∀ (v0 : Nat) (v3 : Int32) (v5 : Nat) (v6 : Int32) (v7 : Int32) (C : CT) (r : Int32) (C9 : CT), CW B C → c_B_keep_172 N k113 v0 v3 v5 v6 v7 C = some (r, C9) → g_B_keep_172 N B k113G v0 v3 v5 v6 v7 (ovC C h0, ck C) = some (r, (ovC C9 h0, ck C9)) ∧ CW B C9 := by
  intro v0 v3 v5 v6 v7 C r C9 hw h
  unfold c_B_keep_172 at h
  unfold g_B_keep_172
  exact i113 _ _ _ _ _ _ _ _ hw h
set_option maxRecDepth 10000 in
set_option maxHeartbeats 4000000 in
theorem t_B_keep_178 {N : Nat} {B : Nat} {SA : Nat → Nat} {h0 : Nat → Option JCell} (hs : CS B SA h0) : ∀ (v0 : Nat) (v5 : Nat) (C : CT) (r : Int32) (C9 : CT), CW B C → c_B_keep_178 N v0 v5 C = some (r, C9) → g_B_keep_178 N B v0 v5 (ovC C h0, ck C) = some (r, (ovC C9 h0, ck C9)) ∧ CW B C9 := by
  intro v0 v5 C r C9 hw h
  unfold c_B_keep_178 at h
  unfold g_B_keep_178
  replace h := obd_of h; obtain ⟨x1, hx1, h⟩ := h
  refine obd_go (cg_A rfl hx1) ?_
  replace h := obd_of h; obtain ⟨x2, hx2, h⟩ := h
  refine obd_go (cg_I rfl hx2) ?_
  replace h := obd_of h; obtain ⟨a3, rfl, h⟩ := h; refine obd_go rfl ?_
  replace h := obd_of h; obtain ⟨C4, hC4, h⟩ := h
  refine obd_go (cq_A hw hC4).1 ?_; replace hw := (cq_A (h0 := h0) hw hC4).2
  replace h := obd_of h; obtain ⟨x5, hx5, h⟩ := h
  refine obd_go (cg_I rfl hx5) ?_
  replace h := obd_of h; obtain ⟨C6, hC6, h⟩ := h
  refine obd_go (cp_I rfl hw hC6).1 ?_; replace hw := (cp_I (h0 := h0) rfl hw hC6).2
  replace h := obd_of h; obtain ⟨x7, hx7, h⟩ := h
  refine obd_go (cg_I rfl hx7) ?_
  obtain ⟨rfl, rfl⟩ := Prod.mk.inj (Option.some.inj h); exact ⟨rfl, hw⟩
set_option maxRecDepth 10000 in
set_option maxHeartbeats 4000000 in
theorem t_B_keep_113 {N : Nat} {B : Nat} {SA : Nat → Nat} {h0 : Nat → Option JCell} (hs : CS B SA h0) : ∀ (n : Nat), ∀ (v0 : Nat) (v3 : Int32) (v5 : Nat) (v6 : Int32) (v7 : Int32) (C : CT) (r : Int32) (C9 : CT), CW B C → c_B_keep_113 N n v0 v3 v5 v6 v7 C = some (r, C9) → g_B_keep_113 N B n v0 v3 v5 v6 v7 (ovC C h0, ck C) = some (r, (ovC C9 h0, ck C9)) ∧ CW B C9 := by
  intro n
  induction n with
  | zero =>
    intro v0 v3 v5 v6 v7 C r C9 hw h
    unfold c_B_keep_113 at h
    cases h
  | succ n ih =>
    intro v0 v3 v5 v6 v7 C r C9 hw h
    unfold c_B_keep_113 at h
    unfold g_B_keep_113
    replace h := ite_or h; rcases h with ⟨hc, h⟩ | ⟨hc, h⟩
    · refine ite_goT hc ?_
      exact t_B_keep_178 hs _ _ _ _ _ hw h
    · refine ite_goF hc ?_
      replace h := obd_of h; obtain ⟨x1, hx1, h⟩ := h
      refine obd_go (cg_A rfl hx1) ?_
      replace h := obd_of h; obtain ⟨a2, rfl, h⟩ := h; refine obd_go rfl ?_
      replace h := obd_of h; obtain ⟨x3, hx3, h⟩ := h
      refine obd_go (ca_len hx3) ?_
      replace h := ite_or h; rcases h with ⟨hc, h⟩ | ⟨hc, h⟩
      · refine ite_goT hc ?_
        exact t_B_keep_178 hs _ _ _ _ _ hw h
      · refine ite_goF hc ?_
        replace h := obd_of h; obtain ⟨x4, hx4, h⟩ := h
        refine obd_go (cg_A rfl hx4) ?_
        replace h := obd_of h; obtain ⟨a5, rfl, h⟩ := h; refine obd_go rfl ?_
        replace h := obd_of h; obtain ⟨x6, hx6, h⟩ := h
        refine obd_go (ca_A hx6) ?_
        replace h := jon_or h; rcases h with ⟨rfl, h⟩ | ⟨a7, rfl, h⟩
        · refine jon_goN ?_
          exact t_B_keep_172 hs ih _ _ _ _ _ _ _ _ hw h
        · refine jon_goS ?_
          replace h := obd_of h; obtain ⟨x8, hx8, h⟩ := h
          refine obd_go (cg_A rfl hx8) ?_
          replace h := obd_of h; obtain ⟨a9, rfl, h⟩ := h; refine obd_go rfl ?_
          replace h := obd_of h; obtain ⟨x10, hx10, h⟩ := h
          refine obd_go (ca_A hx10) ?_
          replace h := jgd_of h; obtain ⟨hb, h⟩ := h; refine jgd_go (c_job hb) ?_
          replace h := obd_of h; obtain ⟨C11, hC11, h⟩ := h; have hq := (t_Kept_shape hs _ _ _ _ _ hw hC11); refine obd_go hq.1 ?_; replace hw := hq.2
          replace h := obd_of h; obtain ⟨x12, hx12, h⟩ := h
          refine obd_go (cg_A rfl hx12) ?_
          replace h := obd_of h; obtain ⟨a13, rfl, h⟩ := h; refine obd_go rfl ?_
          replace h := obd_of h; obtain ⟨x14, hx14, h⟩ := h
          refine obd_go (ca_A hx14) ?_
          replace h := obd_of h; obtain ⟨x15, hx15, h⟩ := h
          refine obd_go (cg_A rfl hx15) ?_
          replace h := obd_of h; obtain ⟨a16, rfl, h⟩ := h; refine obd_go rfl ?_
          replace h := jgd_of h; obtain ⟨hb, h⟩ := h; refine jgd_go (c_job hb) ?_
          replace h := cbd2_of h; obtain ⟨x17, C18, hx17, h⟩ := h; have hq := (t_Chain_save hs _ _ _ _ _ _ hw hx17); refine jbd2_go hq.1 ?_; replace hw := hq.2
          exact t_B_keep_172 hs ih _ _ _ _ _ _ _ _ hw h
set_option maxRecDepth 10000 in
set_option maxHeartbeats 4000000 in
theorem t_B_keep_94 {N : Nat} {B : Nat} {SA : Nat → Nat} {h0 : Nat → Option JCell} (hs : CS B SA h0) : ∀ (v0 : Nat) (v2 : Nat) (v3 : Int32) (v4 : Int32) (C : CT) (r : Int32) (C9 : CT), CW B C → c_B_keep_94 N v0 v2 v3 v4 C = some (r, C9) → g_B_keep_94 N B v0 v2 v3 v4 (ovC C h0, ck C) = some (r, (ovC C9 h0, ck C9)) ∧ CW B C9 := by
  intro v0 v2 v3 v4 C r C9 hw h
  unfold c_B_keep_94 at h
  unfold g_B_keep_94
  replace h := cnew_of h; refine jnew_go hw (by decide) ?_; replace hw := cw_new (ci := 3) hw (by decide)
  replace h := obd_of h; obtain ⟨C3, hC3, h⟩ := h; have hq := (t_Kept_init hs _ _ _ _ _ _ hw hC3); refine obd_go hq.1 ?_; replace hw := hq.2
  exact t_B_keep_113 hs _ _ _ _ _ _ _ _ _ hw h
set_option maxRecDepth 10000 in
set_option maxHeartbeats 4000000 in
theorem t_B_keep_43 {N : Nat} {B : Nat} {SA : Nat → Nat} {h0 : Nat → Option JCell} (hs : CS B SA h0) : ∀ (n : Nat), ∀ (v0 : Nat) (v2 : Nat) (v3 : Int32) (v4 : Int32) (v5 : Int32) (C : CT) (r : Int32) (C9 : CT), CW B C → c_B_keep_43 N n v0 v2 v3 v4 v5 C = some (r, C9) → g_B_keep_43 N B n v0 v2 v3 v4 v5 (ovC C h0, ck C) = some (r, (ovC C9 h0, ck C9)) ∧ CW B C9 := by
  intro n
  induction n with
  | zero =>
    intro v0 v2 v3 v4 v5 C r C9 hw h
    unfold c_B_keep_43 at h
    cases h
  | succ n ih =>
    intro v0 v2 v3 v4 v5 C r C9 hw h
    unfold c_B_keep_43 at h
    unfold g_B_keep_43
    replace h := ite_or h; rcases h with ⟨hc, h⟩ | ⟨hc, h⟩
    · refine ite_goT hc ?_
      exact t_B_keep_94 hs _ _ _ _ _ _ _ hw h
    · refine ite_goF hc ?_
      replace h := obd_of h; obtain ⟨x1, hx1, h⟩ := h
      refine obd_go (cg_A rfl hx1) ?_
      replace h := obd_of h; obtain ⟨a2, rfl, h⟩ := h; refine obd_go rfl ?_
      replace h := obd_of h; obtain ⟨x3, hx3, h⟩ := h
      refine obd_go (ca_len hx3) ?_
      replace h := ite_or h; rcases h with ⟨hc, h⟩ | ⟨hc, h⟩
      · refine ite_goT hc ?_
        exact t_B_keep_94 hs _ _ _ _ _ _ _ hw h
      · refine ite_goF hc ?_
        replace h := obd_of h; obtain ⟨x4, hx4, h⟩ := h
        refine obd_go (cg_A rfl hx4) ?_
        replace h := obd_of h; obtain ⟨a5, rfl, h⟩ := h; refine obd_go rfl ?_
        replace h := obd_of h; obtain ⟨x6, hx6, h⟩ := h
        refine obd_go (ca_A hx6) ?_
        replace h := jon_or h; rcases h with ⟨rfl, h⟩ | ⟨a7, rfl, h⟩
        · refine jon_goN ?_
          exact t_B_keep_85 hs ih _ _ _ _ _ _ _ _ _ hw h
        · refine jon_goS ?_
          replace h := obd_of h; obtain ⟨x8, hx8, h⟩ := h
          refine obd_go (cg_A rfl hx8) ?_
          replace h := obd_of h; obtain ⟨a9, rfl, h⟩ := h; refine obd_go rfl ?_
          replace h := obd_of h; obtain ⟨x10, hx10, h⟩ := h
          refine obd_go (ca_A hx10) ?_
          replace h := obd_of h; obtain ⟨a11, rfl, h⟩ := h; refine obd_go rfl ?_
          replace h := jgd_of h; obtain ⟨hb, h⟩ := h; refine jgd_go (c_job hb) ?_
          replace h := obd_of h; obtain ⟨x12, hx12, h⟩ := h; refine obd_go (t_Chain_valueCount hs _ _ _ hw hx12).1 ?_
          exact t_B_keep_85 hs ih _ _ _ _ _ _ _ _ _ hw h
set_option maxRecDepth 10000 in
set_option maxHeartbeats 4000000 in
theorem t_B_keep {N : Nat} {B : Nat} {SA : Nat → Nat} {h0 : Nat → Option JCell} (hs : CS B SA h0) : ∀ (v0 : Nat) (v1 : Int32) (C : CT) (r : Int32) (C9 : CT), CW B C → c_B_keep N v0 v1 C = some (r, C9) → g_B_keep N B v0 v1 (ovC C h0, ck C) = some (r, (ovC C9 h0, ck C9)) ∧ CW B C9 := by
  intro v0 v1 C r C9 hw h
  unfold c_B_keep at h
  unfold g_B_keep
  replace h := jgd_of h; obtain ⟨hb, h⟩ := h; refine jgd_go (c_job hb) ?_
  replace h := obd_of h; obtain ⟨x1, hx1, h⟩ := h; refine obd_go (t_B_chainAt hs _ _ _ _ hw hx1).1 ?_
  replace h := jon_or h; rcases h with ⟨rfl, h⟩ | ⟨a2, rfl, h⟩
  · refine jon_goN ?_
    obtain ⟨rfl, rfl⟩ := Prod.mk.inj (Option.some.inj h); exact ⟨rfl, hw⟩
  · refine jon_goS ?_
    replace h := obd_of h; obtain ⟨x3, hx3, h⟩ := h
    refine obd_go (cg_I rfl hx3) ?_
    replace h := ite_or h; rcases h with ⟨hc, h⟩ | ⟨hc, h⟩
    · refine ite_goT hc ?_
      obtain ⟨rfl, rfl⟩ := Prod.mk.inj (Option.some.inj h); exact ⟨rfl, hw⟩
    · refine ite_goF hc ?_
      replace h := obd_of h; obtain ⟨x4, hx4, h⟩ := h
      refine obd_go (cg_I rfl hx4) ?_
      replace h := obd_of h; obtain ⟨x5, hx5, h⟩ := h
      refine obd_go (cg_A rfl hx5) ?_
      replace h := obd_of h; obtain ⟨a6, rfl, h⟩ := h; refine obd_go rfl ?_
      replace h := obd_of h; obtain ⟨x7, hx7, h⟩ := h
      refine obd_go (ca_len hx7) ?_
      replace h := ite_or h; rcases h with ⟨hc, h⟩ | ⟨hc, h⟩
      · refine ite_goT hc ?_
        replace h := jgd_of h; obtain ⟨hb, h⟩ := h; refine jgd_go (c_job hb) ?_
        replace h := cbd2_of h; obtain ⟨x8, C9, hx8, h⟩ := h; have hq := (t_B_gather hs _ _ _ _ _ hw hx8); refine jbd2_go hq.1 ?_; replace hw := hq.2
        exact t_B_keep_43 hs _ _ _ _ _ _ _ _ _ hw h
      · refine ite_goF hc ?_
        obtain ⟨rfl, rfl⟩ := Prod.mk.inj (Option.some.inj h); exact ⟨rfl, hw⟩
set_option maxRecDepth 10000 in
set_option maxHeartbeats 4000000 in
theorem t_Kept_chainCount {B : Nat} {SA : Nat → Nat} {h0 : Nat → Option JCell} (hs : CS B SA h0) : ∀ (v0 : Nat) (C : CT) (r : Int32), CW B C → c_Kept_chainCount v0 C = some r → g_Kept_chainCount v0 (ovC C h0) = some r ∧ True := by
  intro v0 C r hw h
  unfold c_Kept_chainCount at h
  unfold g_Kept_chainCount
  replace h := obd_of h; obtain ⟨x1, hx1, h⟩ := h
  refine obd_go (cg_A rfl hx1) ?_
  replace h := obd_of h; obtain ⟨a2, rfl, h⟩ := h; refine obd_go rfl ?_
  replace h := obd_of h; obtain ⟨x3, hx3, h⟩ := h
  refine obd_go (ca_len hx3) ?_
  obtain rfl := Option.some.inj h; exact ⟨rfl, trivial⟩
set_option maxRecDepth 10000 in
set_option maxHeartbeats 4000000 in
theorem t_Kept_isShaped {B : Nat} {SA : Nat → Nat} {h0 : Nat → Option JCell} (hs : CS B SA h0) : ∀ (v0 : Nat) (v1 : Int32) (v2 : Option Nat) (C : CT) (r : Bool), CW B C → c_Kept_isShaped v0 v1 v2 C = some r → g_Kept_isShaped v0 v1 v2 (ovC C h0) = some r ∧ True := by
  intro v0 v1 v2 C r hw h
  unfold c_Kept_isShaped at h
  unfold g_Kept_isShaped
  replace h := ite_or h; rcases h with ⟨hc, h⟩ | ⟨hc, h⟩
  · refine ite_goT hc ?_
    obtain rfl := Option.some.inj h; exact ⟨rfl, trivial⟩
  · refine ite_goF hc ?_
    replace h := obd_of h; obtain ⟨x1, hx1, h⟩ := h
    refine obd_go (cg_A rfl hx1) ?_
    replace h := obd_of h; obtain ⟨a2, rfl, h⟩ := h; refine obd_go rfl ?_
    replace h := obd_of h; obtain ⟨x3, hx3, h⟩ := h
    refine obd_go (ca_len hx3) ?_
    replace h := ite_or h; rcases h with ⟨hc, h⟩ | ⟨hc, h⟩
    · refine ite_goT hc ?_
      obtain rfl := Option.some.inj h; exact ⟨rfl, trivial⟩
    · refine ite_goF hc ?_
      replace h := obd_of h; obtain ⟨x4, hx4, h⟩ := h
      refine obd_go (cg_A rfl hx4) ?_
      replace h := obd_of h; obtain ⟨a5, rfl, h⟩ := h; refine obd_go rfl ?_
      replace h := obd_of h; obtain ⟨x6, hx6, h⟩ := h
      refine obd_go (ca_I hx6) ?_
      replace h := obd_of h; obtain ⟨a7, rfl, h⟩ := h; refine obd_go rfl ?_
      replace h := obd_of h; obtain ⟨x8, hx8, h⟩ := h
      refine obd_go (cg_I rfl hx8) ?_
      replace h := ite_or h; rcases h with ⟨hc, h⟩ | ⟨hc, h⟩
      · refine ite_goT hc ?_
        replace h := obd_of h; obtain ⟨x9, hx9, h⟩ := h
        refine obd_go (cg_A rfl hx9) ?_
        replace h := obd_of h; obtain ⟨a10, rfl, h⟩ := h; refine obd_go rfl ?_
        replace h := obd_of h; obtain ⟨x11, hx11, h⟩ := h
        refine obd_go (ca_I hx11) ?_
        replace h := obd_of h; obtain ⟨x12, hx12, h⟩ := h
        refine obd_go (cg_I rfl hx12) ?_
        replace h := ite_or h; rcases h with ⟨hc, h⟩ | ⟨hc, h⟩
        · refine ite_goT hc ?_
          replace h := obd_of h; obtain ⟨x13, hx13, h⟩ := h
          refine obd_go (cg_A rfl hx13) ?_
          replace h := obd_of h; obtain ⟨a14, rfl, h⟩ := h; refine obd_go rfl ?_
          replace h := obd_of h; obtain ⟨x15, hx15, h⟩ := h
          refine obd_go (ca_I hx15) ?_
          replace h := obd_of h; obtain ⟨x16, hx16, h⟩ := h
          refine obd_go (cg_I rfl hx16) ?_
          replace h := ite_or h; rcases h with ⟨hc, h⟩ | ⟨hc, h⟩
          · refine ite_goT hc ?_
            obtain rfl := Option.some.inj h; exact ⟨rfl, trivial⟩
          · refine ite_goF hc ?_
            obtain rfl := Option.some.inj h; exact ⟨rfl, trivial⟩
        · refine ite_goF hc ?_
          obtain rfl := Option.some.inj h; exact ⟨rfl, trivial⟩
      · refine ite_goF hc ?_
        obtain rfl := Option.some.inj h; exact ⟨rfl, trivial⟩
set_option maxRecDepth 10000 in
set_option maxHeartbeats 4000000 in
theorem t_B_gatherAsKept_21 {N : Nat} {B : Nat} {SA : Nat → Nat} {h0 : Nat → Option JCell} (hs : CS B SA h0) : ∀ (n : Nat), ∀ (v0 : Nat) (v1 : Nat) (v2 : Int32) (v3 : Int32) (C : CT) (r : Bool) (C9 : CT), CW B C → c_B_gatherAsKept_21 N n v0 v1 v2 v3 C = some (r, C9) → g_B_gatherAsKept_21 N B n v0 v1 v2 v3 (ovC C h0, ck C) = some (r, (ovC C9 h0, ck C9)) ∧ CW B C9 := by
  intro n
  induction n with
  | zero =>
    intro v0 v1 v2 v3 C r C9 hw h
    unfold c_B_gatherAsKept_21 at h
    cases h
  | succ n ih =>
    intro v0 v1 v2 v3 C r C9 hw h
    unfold c_B_gatherAsKept_21 at h
    unfold g_B_gatherAsKept_21
    replace h := ite_or h; rcases h with ⟨hc, h⟩ | ⟨hc, h⟩
    · refine ite_goT hc ?_
      obtain ⟨rfl, rfl⟩ := Prod.mk.inj (Option.some.inj h); exact ⟨rfl, hw⟩
    · refine ite_goF hc ?_
      replace h := obd_of h; obtain ⟨x1, hx1, h⟩ := h
      refine obd_go (cg_A rfl hx1) ?_
      replace h := obd_of h; obtain ⟨a2, rfl, h⟩ := h; refine obd_go rfl ?_
      replace h := obd_of h; obtain ⟨x3, hx3, h⟩ := h
      refine obd_go (ca_len hx3) ?_
      replace h := ite_or h; rcases h with ⟨hc, h⟩ | ⟨hc, h⟩
      · refine ite_goT hc ?_
        obtain ⟨rfl, rfl⟩ := Prod.mk.inj (Option.some.inj h); exact ⟨rfl, hw⟩
      · refine ite_goF hc ?_
        replace h := obd_of h; obtain ⟨x4, hx4, h⟩ := h
        refine obd_go (cg_A rfl hx4) ?_
        replace h := obd_of h; obtain ⟨a5, rfl, h⟩ := h; refine obd_go rfl ?_
        replace h := obd_of h; obtain ⟨x6, hx6, h⟩ := h
        refine obd_go (ca_A hx6) ?_
        replace h := jon_or h; rcases h with ⟨rfl, h⟩ | ⟨a7, rfl, h⟩
        · refine jon_goN ?_
          obtain ⟨rfl, rfl⟩ := Prod.mk.inj (Option.some.inj h); exact ⟨rfl, hw⟩
        · refine jon_goS ?_
          replace h := obd_of h; obtain ⟨x8, hx8, h⟩ := h
          refine obd_go (cg_A rfl hx8) ?_
          replace h := obd_of h; obtain ⟨a9, rfl, h⟩ := h; refine obd_go rfl ?_
          replace h := obd_of h; obtain ⟨x10, hx10, h⟩ := h
          refine obd_go (ca_A hx10) ?_
          replace h := jgd_of h; obtain ⟨hb, h⟩ := h; refine jgd_go (c_job hb) ?_
          replace h := obd_of h; obtain ⟨x11, hx11, h⟩ := h; refine obd_go (t_Kept_isShaped hs _ _ _ _ _ hw hx11).1 ?_
          replace h := ite_or h; rcases h with ⟨hc, h⟩ | ⟨hc, h⟩
          · refine ite_goT hc ?_
            exact ih _ _ _ _ _ _ _ hw h
          · refine ite_goF hc ?_
            obtain ⟨rfl, rfl⟩ := Prod.mk.inj (Option.some.inj h); exact ⟨rfl, hw⟩
set_option maxRecDepth 10000 in
set_option maxHeartbeats 4000000 in
theorem t_B_gatherAsKept {N : Nat} {B : Nat} {SA : Nat → Nat} {h0 : Nat → Option JCell} (hs : CS B SA h0) : ∀ (v0 : Nat) (v1 : Option Nat) (C : CT) (r : Bool) (C9 : CT), CW B C → c_B_gatherAsKept N v0 v1 C = some (r, C9) → g_B_gatherAsKept N B v0 v1 (ovC C h0, ck C) = some (r, (ovC C9 h0, ck C9)) ∧ CW B C9 := by
  intro v0 v1 C r C9 hw h
  unfold c_B_gatherAsKept at h
  unfold g_B_gatherAsKept
  replace h := obd_of h; obtain ⟨a1, rfl, h⟩ := h; refine obd_go rfl ?_
  replace h := obd_of h; obtain ⟨x2, hx2, h⟩ := h
  refine obd_go (cg_A rfl hx2) ?_
  replace h := jgd_of h; obtain ⟨hb, h⟩ := h; refine jgd_go (c_job hb) ?_
  replace h := cbd2_of h; obtain ⟨x3, C4, hx3, h⟩ := h; have hq := (t_B_gather hs _ _ _ _ _ hw hx3); refine jbd2_go hq.1 ?_; replace hw := hq.2
  replace h := jgd_of h; obtain ⟨hb, h⟩ := h; refine jgd_go (c_job hb) ?_
  replace h := obd_of h; obtain ⟨x5, hx5, h⟩ := h; refine obd_go (t_Kept_chainCount hs _ _ _ hw hx5).1 ?_
  replace h := ite_or h; rcases h with ⟨hc, h⟩ | ⟨hc, h⟩
  · refine ite_goT hc ?_
    exact t_B_gatherAsKept_21 hs _ _ _ _ _ _ _ _ hw h
  · refine ite_goF hc ?_
    obtain ⟨rfl, rfl⟩ := Prod.mk.inj (Option.some.inj h); exact ⟨rfl, hw⟩
set_option maxRecDepth 10000 in
set_option maxHeartbeats 4000000 in
theorem t_B_keptAt_21 {B : Nat} {SA : Nat → Nat} {h0 : Nat → Option JCell} (hs : CS B SA h0) : ∀ (C : CT) (r : Option Nat), CW B C → c_B_keptAt_21 C = some r → g_B_keptAt_21 (ovC C h0) = some r ∧ True := by
  intro C r hw h
  unfold c_B_keptAt_21 at h
  unfold g_B_keptAt_21
  obtain rfl := Option.some.inj h; exact ⟨rfl, trivial⟩
set_option maxRecDepth 10000 in
set_option maxHeartbeats 4000000 in
theorem t_B_keptAt {B : Nat} {SA : Nat → Nat} {h0 : Nat → Option JCell} (hs : CS B SA h0) : ∀ (v0 : Nat) (v1 : Int32) (C : CT) (r : Option Nat), CW B C → c_B_keptAt v0 v1 C = some r → g_B_keptAt v0 v1 (ovC C h0) = some r ∧ True := by
  intro v0 v1 C r hw h
  unfold c_B_keptAt at h
  unfold g_B_keptAt
  replace h := ite_or h; rcases h with ⟨hc, h⟩ | ⟨hc, h⟩
  · refine ite_goT hc ?_
    exact t_B_keptAt_21 hs  _ _ hw h
  · refine ite_goF hc ?_
    replace h := obd_of h; obtain ⟨x1, hx1, h⟩ := h
    refine obd_go (cg_I rfl hx1) ?_
    replace h := ite_or h; rcases h with ⟨hc, h⟩ | ⟨hc, h⟩
    · refine ite_goT hc ?_
      exact t_B_keptAt_21 hs  _ _ hw h
    · refine ite_goF hc ?_
      replace h := obd_of h; obtain ⟨x2, hx2, h⟩ := h
      refine obd_go (cg_A rfl hx2) ?_
      replace h := obd_of h; obtain ⟨a3, rfl, h⟩ := h; refine obd_go rfl ?_
      replace h := obd_of h; obtain ⟨x4, hx4, h⟩ := h
      refine obd_go (ca_len hx4) ?_
      replace h := ite_or h; rcases h with ⟨hc, h⟩ | ⟨hc, h⟩
      · refine ite_goT hc ?_
        replace h := obd_of h; obtain ⟨x5, hx5, h⟩ := h
        refine obd_go (cg_A rfl hx5) ?_
        replace h := obd_of h; obtain ⟨a6, rfl, h⟩ := h; refine obd_go rfl ?_
        replace h := obd_of h; obtain ⟨x7, hx7, h⟩ := h
        refine obd_go (ca_A hx7) ?_
        obtain rfl := Option.some.inj h; exact ⟨rfl, trivial⟩
      · refine ite_goF hc ?_
        exact t_B_keptAt_21 hs  _ _ hw h
set_option maxRecDepth 10000 in
set_option maxHeartbeats 4000000 in
theorem t_Row_load_35 {N : Nat} {B : Nat} {SA : Nat → Nat} {h0 : Nat → Option JCell} (hs : CS B SA h0) {k2 : Nat → Option Nat → Int32 → Int32 → CT → Option (Int32 × CT)} {k2G : Nat → Option Nat → Int32 → Int32 → JMem → Option (Int32 × JMem)} (i2 : ∀ (v0 : Nat) (v1 : Option Nat) (v2 : Int32) (v3 : Int32) (C : CT) (r : Int32) (C9 : CT), CW B C → k2 v0 v1 v2 v3 C = some (r, C9) → k2G v0 v1 v2 v3 (ovC C h0, ck C) = some (r, (ovC C9 h0, ck C9)) ∧ CW B C9) : ∀ (v0 : Nat) (v1 : Option Nat) (v2 : Int32) (v3 : Int32) (C : CT) (r : Int32) (C9 : CT), CW B C → c_Row_load_35 N k2 v0 v1 v2 v3 C = some (r, C9) → g_Row_load_35 N B k2G v0 v1 v2 v3 (ovC C h0, ck C) = some (r, (ovC C9 h0, ck C9)) ∧ CW B C9 := by
  intro v0 v1 v2 v3 C r C9 hw h
  unfold c_Row_load_35 at h
  unfold g_Row_load_35
  exact i2 _ _ _ _ _ _ _ hw h
set_option maxRecDepth 10000 in
set_option maxHeartbeats 4000000 in
theorem t_Row_load_2 {N : Nat} {B : Nat} {SA : Nat → Nat} {h0 : Nat → Option JCell} (hs : CS B SA h0) : ∀ (n : Nat), ∀ (v0 : Nat) (v1 : Option Nat) (v2 : Int32) (v3 : Int32) (C : CT) (r : Int32) (C9 : CT), CW B C → c_Row_load_2 N n v0 v1 v2 v3 C = some (r, C9) → g_Row_load_2 N B n v0 v1 v2 v3 (ovC C h0, ck C) = some (r, (ovC C9 h0, ck C9)) ∧ CW B C9 := by
  intro n
  induction n with
  | zero =>
    intro v0 v1 v2 v3 C r C9 hw h
    unfold c_Row_load_2 at h
    cases h
  | succ n ih =>
    intro v0 v1 v2 v3 C r C9 hw h
    unfold c_Row_load_2 at h
    unfold g_Row_load_2
    replace h := obd_of h; obtain ⟨x1, hx1, h⟩ := h
    refine obd_go (cg_A rfl hx1) ?_
    replace h := obd_of h; obtain ⟨a2, rfl, h⟩ := h; refine obd_go rfl ?_
    replace h := obd_of h; obtain ⟨x3, hx3, h⟩ := h
    refine obd_go (ca_len hx3) ?_
    replace h := ite_or h; rcases h with ⟨hc, h⟩ | ⟨hc, h⟩
    · refine ite_goT hc ?_
      replace h := obd_of h; obtain ⟨x4, hx4, h⟩ := h
      refine obd_go (cg_A rfl hx4) ?_
      replace h := obd_of h; obtain ⟨a5, rfl, h⟩ := h; refine obd_go rfl ?_
      replace h := obd_of h; obtain ⟨x6, hx6, h⟩ := h
      refine obd_go (ca_len hx6) ?_
      obtain ⟨rfl, rfl⟩ := Prod.mk.inj (Option.some.inj h); exact ⟨rfl, hw⟩
    · refine ite_goF hc ?_
      replace h := ite_or h; rcases h with ⟨hc, h⟩ | ⟨hc, h⟩
      · refine ite_goT hc ?_
        exact t_Row_load_35 hs ih _ _ _ _ _ _ _ hw h
      · refine ite_goF hc ?_
        replace h := obd_of h; obtain ⟨a7, rfl, h⟩ := h; refine obd_go rfl ?_
        replace h := obd_of h; obtain ⟨x8, hx8, h⟩ := h
        refine obd_go (ca_len hx8) ?_
        replace h := ite_or h; rcases h with ⟨hc, h⟩ | ⟨hc, h⟩
        · refine ite_goT hc ?_
          exact t_Row_load_35 hs ih _ _ _ _ _ _ _ hw h
        · refine ite_goF hc ?_
          replace h := obd_of h; obtain ⟨x9, hx9, h⟩ := h
          refine obd_go (ca_J hx9) ?_
          replace h := jgd_of h; obtain ⟨hb, h⟩ := h; refine jgd_go (c_job hb) ?_
          replace h := obd_of h; obtain ⟨C10, hC10, h⟩ := h; have hq := (t_Row_put hs _ _ _ _ _ hw hC10); refine obd_go hq.1 ?_; replace hw := hq.2
          exact t_Row_load_35 hs ih _ _ _ _ _ _ _ hw h
set_option maxRecDepth 10000 in
set_option maxHeartbeats 4000000 in
theorem t_Row_load {N : Nat} {B : Nat} {SA : Nat → Nat} {h0 : Nat → Option JCell} (hs : CS B SA h0) : ∀ (v0 : Nat) (v1 : Option Nat) (v2 : Int32) (C : CT) (r : Int32) (C9 : CT), CW B C → c_Row_load N v0 v1 v2 C = some (r, C9) → g_Row_load N B v0 v1 v2 (ovC C h0, ck C) = some (r, (ovC C9 h0, ck C9)) ∧ CW B C9 := by
  intro v0 v1 v2 C r C9 hw h
  unfold c_Row_load at h
  unfold g_Row_load
  exact t_Row_load_2 hs _ _ _ _ _ _ _ _ hw h
set_option maxRecDepth 10000 in
set_option maxHeartbeats 4000000 in
theorem t_Chain_load_38 {N : Nat} {B : Nat} {SA : Nat → Nat} {h0 : Nat → Option JCell} (hs : CS B SA h0) {k5 : Nat → Option Nat → Int32 → Int32 → CT → Option (Int32 × CT)} {k5G : Nat → Option Nat → Int32 → Int32 → JMem → Option (Int32 × JMem)} (i5 : ∀ (v0 : Nat) (v1 : Option Nat) (v3 : Int32) (v4 : Int32) (C : CT) (r : Int32) (C9 : CT), CW B C → k5 v0 v1 v3 v4 C = some (r, C9) → k5G v0 v1 v3 v4 (ovC C h0, ck C) = some (r, (ovC C9 h0, ck C9)) ∧ CW B C9) : ∀ (v0 : Nat) (v1 : Option Nat) (v4 : Int32) (s0 : Int32) (C : CT) (r : Int32) (C9 : CT), CW B C → c_Chain_load_38 N k5 v0 v1 v4 s0 C = some (r, C9) → g_Chain_load_38 N B k5G v0 v1 v4 s0 (ovC C h0, ck C) = some (r, (ovC C9 h0, ck C9)) ∧ CW B C9 := by
  intro v0 v1 v4 s0 C r C9 hw h
  unfold c_Chain_load_38 at h
  unfold g_Chain_load_38
  exact i5 _ _ _ _ _ _ _ hw h
set_option maxRecDepth 10000 in
set_option maxHeartbeats 4000000 in
theorem t_Chain_load_5 {N : Nat} {B : Nat} {SA : Nat → Nat} {h0 : Nat → Option JCell} (hs : CS B SA h0) : ∀ (n : Nat), ∀ (v0 : Nat) (v1 : Option Nat) (v3 : Int32) (v4 : Int32) (C : CT) (r : Int32) (C9 : CT), CW B C → c_Chain_load_5 N n v0 v1 v3 v4 C = some (r, C9) → g_Chain_load_5 N B n v0 v1 v3 v4 (ovC C h0, ck C) = some (r, (ovC C9 h0, ck C9)) ∧ CW B C9 := by
  intro n
  induction n with
  | zero =>
    intro v0 v1 v3 v4 C r C9 hw h
    unfold c_Chain_load_5 at h
    cases h
  | succ n ih =>
    intro v0 v1 v3 v4 C r C9 hw h
    unfold c_Chain_load_5 at h
    unfold g_Chain_load_5
    replace h := jgd_of h; obtain ⟨hb, h⟩ := h; refine jgd_go (c_job hb) ?_
    replace h := obd_of h; obtain ⟨x1, hx1, h⟩ := h; refine obd_go (t_Chain_rowCount hs _ _ _ hw hx1).1 ?_
    replace h := ite_or h; rcases h with ⟨hc, h⟩ | ⟨hc, h⟩
    · refine ite_goT hc ?_
      obtain ⟨rfl, rfl⟩ := Prod.mk.inj (Option.some.inj h); exact ⟨rfl, hw⟩
    · refine ite_goF hc ?_
      replace h := jgd_of h; obtain ⟨hb, h⟩ := h; refine jgd_go (c_job hb) ?_
      replace h := obd_of h; obtain ⟨x2, hx2, h⟩ := h; refine obd_go (t_Chain_rowAt hs _ _ _ _ hw hx2).1 ?_
      replace h := jon_or h; rcases h with ⟨rfl, h⟩ | ⟨a3, rfl, h⟩
      · refine jon_goN ?_
        exact t_Chain_load_38 hs ih _ _ _ _ _ _ _ hw h
      · refine jon_goS ?_
        replace h := jgd_of h; obtain ⟨hb, h⟩ := h; refine jgd_go (c_job hb) ?_
        replace h := cbd2_of h; obtain ⟨x4, C5, hx4, h⟩ := h; have hq := (t_Row_load hs _ _ _ _ _ _ hw hx4); refine jbd2_go hq.1 ?_; replace hw := hq.2
        exact t_Chain_load_38 hs ih _ _ _ _ _ _ _ hw h
set_option maxRecDepth 10000 in
set_option maxHeartbeats 4000000 in
theorem t_Chain_load {N : Nat} {B : Nat} {SA : Nat → Nat} {h0 : Nat → Option JCell} (hs : CS B SA h0) : ∀ (v0 : Nat) (v1 : Option Nat) (v2 : Int32) (C : CT) (r : Int32) (C9 : CT), CW B C → c_Chain_load N v0 v1 v2 C = some (r, C9) → g_Chain_load N B v0 v1 v2 (ovC C h0, ck C) = some (r, (ovC C9 h0, ck C9)) ∧ CW B C9 := by
  intro v0 v1 v2 C r C9 hw h
  unfold c_Chain_load at h
  unfold g_Chain_load
  exact t_Chain_load_5 hs _ _ _ _ _ _ _ _ hw h
set_option maxRecDepth 10000 in
set_option maxHeartbeats 4000000 in
theorem t_B_back_70 {N : Nat} {B : Nat} {SA : Nat → Nat} {h0 : Nat → Option JCell} (hs : CS B SA h0) {k25 : Nat → Nat → Int32 → Int32 → CT → Option (Bool × CT)} {k25G : Nat → Nat → Int32 → Int32 → JMem → Option (Bool × JMem)} (i25 : ∀ (v0 : Nat) (v2 : Nat) (v3 : Int32) (v4 : Int32) (C : CT) (r : Bool) (C9 : CT), CW B C → k25 v0 v2 v3 v4 C = some (r, C9) → k25G v0 v2 v3 v4 (ovC C h0, ck C) = some (r, (ovC C9 h0, ck C9)) ∧ CW B C9) : ∀ (v0 : Nat) (v2 : Nat) (v3 : Int32) (v4 : Int32) (C : CT) (r : Bool) (C9 : CT), CW B C → c_B_back_70 N k25 v0 v2 v3 v4 C = some (r, C9) → g_B_back_70 N B k25G v0 v2 v3 v4 (ovC C h0, ck C) = some (r, (ovC C9 h0, ck C9)) ∧ CW B C9 := by
  intro v0 v2 v3 v4 C r C9 hw h
  unfold c_B_back_70 at h
  unfold g_B_back_70
  exact i25 _ _ _ _ _ _ _ hw h
set_option maxRecDepth 10000 in
set_option maxHeartbeats 4000000 in
theorem t_B_back_25 {N : Nat} {B : Nat} {SA : Nat → Nat} {h0 : Nat → Option JCell} (hs : CS B SA h0) : ∀ (n : Nat), ∀ (v0 : Nat) (v2 : Nat) (v3 : Int32) (v4 : Int32) (C : CT) (r : Bool) (C9 : CT), CW B C → c_B_back_25 N n v0 v2 v3 v4 C = some (r, C9) → g_B_back_25 N B n v0 v2 v3 v4 (ovC C h0, ck C) = some (r, (ovC C9 h0, ck C9)) ∧ CW B C9 := by
  intro n
  induction n with
  | zero =>
    intro v0 v2 v3 v4 C r C9 hw h
    unfold c_B_back_25 at h
    cases h
  | succ n ih =>
    intro v0 v2 v3 v4 C r C9 hw h
    unfold c_B_back_25 at h
    unfold g_B_back_25
    replace h := jgd_of h; obtain ⟨hb, h⟩ := h; refine jgd_go (c_job hb) ?_
    replace h := obd_of h; obtain ⟨x1, hx1, h⟩ := h; refine obd_go (t_Kept_chainCount hs _ _ _ hw hx1).1 ?_
    replace h := ite_or h; rcases h with ⟨hc, h⟩ | ⟨hc, h⟩
    · refine ite_goT hc ?_
      obtain ⟨rfl, rfl⟩ := Prod.mk.inj (Option.some.inj h); exact ⟨rfl, hw⟩
    · refine ite_goF hc ?_
      replace h := obd_of h; obtain ⟨x2, hx2, h⟩ := h
      refine obd_go (cg_A rfl hx2) ?_
      replace h := obd_of h; obtain ⟨a3, rfl, h⟩ := h; refine obd_go rfl ?_
      replace h := obd_of h; obtain ⟨x4, hx4, h⟩ := h
      refine obd_go (ca_len hx4) ?_
      replace h := ite_or h; rcases h with ⟨hc, h⟩ | ⟨hc, h⟩
      · refine ite_goT hc ?_
        obtain ⟨rfl, rfl⟩ := Prod.mk.inj (Option.some.inj h); exact ⟨rfl, hw⟩
      · refine ite_goF hc ?_
        replace h := obd_of h; obtain ⟨x5, hx5, h⟩ := h
        refine obd_go (cg_A rfl hx5) ?_
        replace h := obd_of h; obtain ⟨a6, rfl, h⟩ := h; refine obd_go rfl ?_
        replace h := obd_of h; obtain ⟨x7, hx7, h⟩ := h
        refine obd_go (ca_A hx7) ?_
        replace h := jon_or h; rcases h with ⟨rfl, h⟩ | ⟨a8, rfl, h⟩
        · refine jon_goN ?_
          exact t_B_back_70 hs ih _ _ _ _ _ _ _ hw h
        · refine jon_goS ?_
          replace h := obd_of h; obtain ⟨x9, hx9, h⟩ := h
          refine obd_go (cg_A rfl hx9) ?_
          replace h := obd_of h; obtain ⟨a10, rfl, h⟩ := h; refine obd_go rfl ?_
          replace h := obd_of h; obtain ⟨x11, hx11, h⟩ := h
          refine obd_go (ca_A hx11) ?_
          replace h := obd_of h; obtain ⟨x12, hx12, h⟩ := h
          refine obd_go (cg_A rfl hx12) ?_
          replace h := obd_of h; obtain ⟨a13, rfl, h⟩ := h; refine obd_go rfl ?_
          replace h := jgd_of h; obtain ⟨hb, h⟩ := h; refine jgd_go (c_job hb) ?_
          replace h := cbd2_of h; obtain ⟨x14, C15, hx14, h⟩ := h; have hq := (t_Chain_load hs _ _ _ _ _ _ hw hx14); refine jbd2_go hq.1 ?_; replace hw := hq.2
          exact t_B_back_70 hs ih _ _ _ _ _ _ _ hw h
set_option maxRecDepth 10000 in
set_option maxHeartbeats 4000000 in
theorem t_B_back {N : Nat} {B : Nat} {SA : Nat → Nat} {h0 : Nat → Option JCell} (hs : CS B SA h0) : ∀ (v0 : Nat) (v1 : Int32) (C : CT) (r : Bool) (C9 : CT), CW B C → c_B_back N v0 v1 C = some (r, C9) → g_B_back N B v0 v1 (ovC C h0, ck C) = some (r, (ovC C9 h0, ck C9)) ∧ CW B C9 := by
  intro v0 v1 C r C9 hw h
  unfold c_B_back at h
  unfold g_B_back
  replace h := jgd_of h; obtain ⟨hb, h⟩ := h; refine jgd_go (c_job hb) ?_
  replace h := obd_of h; obtain ⟨x1, hx1, h⟩ := h; refine obd_go (t_B_keptAt hs _ _ _ _ hw hx1).1 ?_
  replace h := jon_or h; rcases h with ⟨rfl, h⟩ | ⟨a2, rfl, h⟩
  · refine jon_goN ?_
    obtain ⟨rfl, rfl⟩ := Prod.mk.inj (Option.some.inj h); exact ⟨rfl, hw⟩
  · refine jon_goS ?_
    replace h := jgd_of h; obtain ⟨hb, h⟩ := h; refine jgd_go (c_job hb) ?_
    replace h := cbd2_of h; obtain ⟨x3, C4, hx3, h⟩ := h; have hq := (t_B_gatherAsKept hs _ _ _ _ _ hw hx3); refine jbd2_go hq.1 ?_; replace hw := hq.2
    replace h := ite_or h; rcases h with ⟨hc, h⟩ | ⟨hc, h⟩
    · refine ite_goT hc ?_
      exact t_B_back_25 hs _ _ _ _ _ _ _ _ hw h
    · refine ite_goF hc ?_
      obtain ⟨rfl, rfl⟩ := Prod.mk.inj (Option.some.inj h); exact ⟨rfl, hw⟩
set_option maxRecDepth 10000 in
set_option maxHeartbeats 4000000 in
theorem t_Row_holdsValues_2 {N : Nat} {B : Nat} {SA : Nat → Nat} {h0 : Nat → Option JCell} (hs : CS B SA h0) : ∀ (n : Nat), ∀ (v0 : Nat) (v1 : Option Nat) (v2 : Int32) (v3 : Int32) (C : CT) (r : Bool), CW B C → c_Row_holdsValues_2 N n v0 v1 v2 v3 C = some r → g_Row_holdsValues_2 N n v0 v1 v2 v3 (ovC C h0) = some r ∧ True := by
  intro n
  induction n with
  | zero =>
    intro v0 v1 v2 v3 C r hw h
    unfold c_Row_holdsValues_2 at h
    cases h
  | succ n ih =>
    intro v0 v1 v2 v3 C r hw h
    unfold c_Row_holdsValues_2 at h
    unfold g_Row_holdsValues_2
    replace h := obd_of h; obtain ⟨x1, hx1, h⟩ := h
    refine obd_go (cg_A rfl hx1) ?_
    replace h := obd_of h; obtain ⟨a2, rfl, h⟩ := h; refine obd_go rfl ?_
    replace h := obd_of h; obtain ⟨x3, hx3, h⟩ := h
    refine obd_go (ca_len hx3) ?_
    replace h := ite_or h; rcases h with ⟨hc, h⟩ | ⟨hc, h⟩
    · refine ite_goT hc ?_
      obtain rfl := Option.some.inj h; exact ⟨rfl, trivial⟩
    · refine ite_goF hc ?_
      replace h := ite_or h; rcases h with ⟨hc, h⟩ | ⟨hc, h⟩
      · refine ite_goT hc ?_
        obtain rfl := Option.some.inj h; exact ⟨rfl, trivial⟩
      · refine ite_goF hc ?_
        replace h := obd_of h; obtain ⟨a4, rfl, h⟩ := h; refine obd_go rfl ?_
        replace h := obd_of h; obtain ⟨x5, hx5, h⟩ := h
        refine obd_go (ca_len hx5) ?_
        replace h := ite_or h; rcases h with ⟨hc, h⟩ | ⟨hc, h⟩
        · refine ite_goT hc ?_
          obtain rfl := Option.some.inj h; exact ⟨rfl, trivial⟩
        · refine ite_goF hc ?_
          replace h := obd_of h; obtain ⟨x6, hx6, h⟩ := h
          refine obd_go (ca_J hx6) ?_
          replace h := jgd_of h; obtain ⟨hb, h⟩ := h; refine jgd_go (c_job hb) ?_
          replace h := obd_of h; obtain ⟨x7, hx7, h⟩ := h; refine obd_go (t_Row_at hs _ _ _ _ hw hx7).1 ?_
          replace h := ite_or h; rcases h with ⟨hc, h⟩ | ⟨hc, h⟩
          · refine ite_goT hc ?_
            exact ih _ _ _ _ _ _ hw h
          · refine ite_goF hc ?_
            obtain rfl := Option.some.inj h; exact ⟨rfl, trivial⟩
set_option maxRecDepth 10000 in
set_option maxHeartbeats 4000000 in
theorem t_Row_holdsValues {N : Nat} {B : Nat} {SA : Nat → Nat} {h0 : Nat → Option JCell} (hs : CS B SA h0) : ∀ (v0 : Nat) (v1 : Option Nat) (v2 : Int32) (C : CT) (r : Bool), CW B C → c_Row_holdsValues N v0 v1 v2 C = some r → g_Row_holdsValues N v0 v1 v2 (ovC C h0) = some r ∧ True := by
  intro v0 v1 v2 C r hw h
  unfold c_Row_holdsValues at h
  unfold g_Row_holdsValues
  exact t_Row_holdsValues_2 hs _ _ _ _ _ _ _ hw h
set_option maxRecDepth 10000 in
set_option maxHeartbeats 4000000 in
theorem t_Chain_holdsValues_5 {N : Nat} {B : Nat} {SA : Nat → Nat} {h0 : Nat → Option JCell} (hs : CS B SA h0) : ∀ (n : Nat), ∀ (v0 : Nat) (v1 : Option Nat) (v3 : Int32) (v4 : Int32) (C : CT) (r : Bool), CW B C → c_Chain_holdsValues_5 N n v0 v1 v3 v4 C = some r → g_Chain_holdsValues_5 N n v0 v1 v3 v4 (ovC C h0) = some r ∧ True := by
  intro n
  induction n with
  | zero =>
    intro v0 v1 v3 v4 C r hw h
    unfold c_Chain_holdsValues_5 at h
    cases h
  | succ n ih =>
    intro v0 v1 v3 v4 C r hw h
    unfold c_Chain_holdsValues_5 at h
    unfold g_Chain_holdsValues_5
    replace h := jgd_of h; obtain ⟨hb, h⟩ := h; refine jgd_go (c_job hb) ?_
    replace h := obd_of h; obtain ⟨x1, hx1, h⟩ := h; refine obd_go (t_Chain_rowCount hs _ _ _ hw hx1).1 ?_
    replace h := ite_or h; rcases h with ⟨hc, h⟩ | ⟨hc, h⟩
    · refine ite_goT hc ?_
      obtain rfl := Option.some.inj h; exact ⟨rfl, trivial⟩
    · refine ite_goF hc ?_
      replace h := jgd_of h; obtain ⟨hb, h⟩ := h; refine jgd_go (c_job hb) ?_
      replace h := obd_of h; obtain ⟨x2, hx2, h⟩ := h; refine obd_go (t_Chain_rowAt hs _ _ _ _ hw hx2).1 ?_
      replace h := jon_or h; rcases h with ⟨rfl, h⟩ | ⟨a3, rfl, h⟩
      · refine jon_goN ?_
        obtain rfl := Option.some.inj h; exact ⟨rfl, trivial⟩
      · refine jon_goS ?_
        replace h := jgd_of h; obtain ⟨hb, h⟩ := h; refine jgd_go (c_job hb) ?_
        replace h := obd_of h; obtain ⟨x4, hx4, h⟩ := h; refine obd_go (t_Row_holdsValues hs _ _ _ _ _ hw hx4).1 ?_
        replace h := ite_or h; rcases h with ⟨hc, h⟩ | ⟨hc, h⟩
        · refine ite_goT hc ?_
          replace h := jgd_of h; obtain ⟨hb, h⟩ := h; refine jgd_go (c_job hb) ?_
          replace h := obd_of h; obtain ⟨x5, hx5, h⟩ := h; refine obd_go (t_Row_size hs _ _ _ hw hx5).1 ?_
          exact ih _ _ _ _ _ _ hw h
        · refine ite_goF hc ?_
          obtain rfl := Option.some.inj h; exact ⟨rfl, trivial⟩
set_option maxRecDepth 10000 in
set_option maxHeartbeats 4000000 in
theorem t_Chain_holdsValues {N : Nat} {B : Nat} {SA : Nat → Nat} {h0 : Nat → Option JCell} (hs : CS B SA h0) : ∀ (v0 : Nat) (v1 : Option Nat) (v2 : Int32) (C : CT) (r : Bool), CW B C → c_Chain_holdsValues N v0 v1 v2 C = some r → g_Chain_holdsValues N v0 v1 v2 (ovC C h0) = some r ∧ True := by
  intro v0 v1 v2 C r hw h
  unfold c_Chain_holdsValues at h
  unfold g_Chain_holdsValues
  exact t_Chain_holdsValues_5 hs _ _ _ _ _ _ _ hw h
set_option maxRecDepth 10000 in
set_option maxHeartbeats 4000000 in
theorem t_B_same_25 {N : Nat} {B : Nat} {SA : Nat → Nat} {h0 : Nat → Option JCell} (hs : CS B SA h0) : ∀ (n : Nat), ∀ (v0 : Nat) (v2 : Nat) (v3 : Int32) (v4 : Int32) (C : CT) (r : Bool) (C9 : CT), CW B C → c_B_same_25 N n v0 v2 v3 v4 C = some (r, C9) → g_B_same_25 N B n v0 v2 v3 v4 (ovC C h0, ck C) = some (r, (ovC C9 h0, ck C9)) ∧ CW B C9 := by
  intro n
  induction n with
  | zero =>
    intro v0 v2 v3 v4 C r C9 hw h
    unfold c_B_same_25 at h
    cases h
  | succ n ih =>
    intro v0 v2 v3 v4 C r C9 hw h
    unfold c_B_same_25 at h
    unfold g_B_same_25
    replace h := jgd_of h; obtain ⟨hb, h⟩ := h; refine jgd_go (c_job hb) ?_
    replace h := obd_of h; obtain ⟨x1, hx1, h⟩ := h; refine obd_go (t_Kept_chainCount hs _ _ _ hw hx1).1 ?_
    replace h := ite_or h; rcases h with ⟨hc, h⟩ | ⟨hc, h⟩
    · refine ite_goT hc ?_
      obtain ⟨rfl, rfl⟩ := Prod.mk.inj (Option.some.inj h); exact ⟨rfl, hw⟩
    · refine ite_goF hc ?_
      replace h := obd_of h; obtain ⟨x2, hx2, h⟩ := h
      refine obd_go (cg_A rfl hx2) ?_
      replace h := obd_of h; obtain ⟨a3, rfl, h⟩ := h; refine obd_go rfl ?_
      replace h := obd_of h; obtain ⟨x4, hx4, h⟩ := h
      refine obd_go (ca_len hx4) ?_
      replace h := ite_or h; rcases h with ⟨hc, h⟩ | ⟨hc, h⟩
      · refine ite_goT hc ?_
        obtain ⟨rfl, rfl⟩ := Prod.mk.inj (Option.some.inj h); exact ⟨rfl, hw⟩
      · refine ite_goF hc ?_
        replace h := obd_of h; obtain ⟨x5, hx5, h⟩ := h
        refine obd_go (cg_A rfl hx5) ?_
        replace h := obd_of h; obtain ⟨a6, rfl, h⟩ := h; refine obd_go rfl ?_
        replace h := obd_of h; obtain ⟨x7, hx7, h⟩ := h
        refine obd_go (ca_A hx7) ?_
        replace h := jon_or h; rcases h with ⟨rfl, h⟩ | ⟨a8, rfl, h⟩
        · refine jon_goN ?_
          obtain ⟨rfl, rfl⟩ := Prod.mk.inj (Option.some.inj h); exact ⟨rfl, hw⟩
        · refine jon_goS ?_
          replace h := obd_of h; obtain ⟨x9, hx9, h⟩ := h
          refine obd_go (cg_A rfl hx9) ?_
          replace h := obd_of h; obtain ⟨a10, rfl, h⟩ := h; refine obd_go rfl ?_
          replace h := obd_of h; obtain ⟨x11, hx11, h⟩ := h
          refine obd_go (ca_A hx11) ?_
          replace h := obd_of h; obtain ⟨x12, hx12, h⟩ := h
          refine obd_go (cg_A rfl hx12) ?_
          replace h := obd_of h; obtain ⟨a13, rfl, h⟩ := h; refine obd_go rfl ?_
          replace h := jgd_of h; obtain ⟨hb, h⟩ := h; refine jgd_go (c_job hb) ?_
          replace h := obd_of h; obtain ⟨x14, hx14, h⟩ := h; refine obd_go (t_Chain_holdsValues hs _ _ _ _ _ hw hx14).1 ?_
          replace h := ite_or h; rcases h with ⟨hc, h⟩ | ⟨hc, h⟩
          · refine ite_goT hc ?_
            replace h := obd_of h; obtain ⟨x15, hx15, h⟩ := h
            refine obd_go (cg_A rfl hx15) ?_
            replace h := obd_of h; obtain ⟨a16, rfl, h⟩ := h; refine obd_go rfl ?_
            replace h := obd_of h; obtain ⟨x17, hx17, h⟩ := h
            refine obd_go (ca_A hx17) ?_
            replace h := obd_of h; obtain ⟨a18, rfl, h⟩ := h; refine obd_go rfl ?_
            replace h := jgd_of h; obtain ⟨hb, h⟩ := h; refine jgd_go (c_job hb) ?_
            replace h := obd_of h; obtain ⟨x19, hx19, h⟩ := h; refine obd_go (t_Chain_valueCount hs _ _ _ hw hx19).1 ?_
            exact ih _ _ _ _ _ _ _ hw h
          · refine ite_goF hc ?_
            obtain ⟨rfl, rfl⟩ := Prod.mk.inj (Option.some.inj h); exact ⟨rfl, hw⟩
set_option maxRecDepth 10000 in
set_option maxHeartbeats 4000000 in
theorem t_B_same {N : Nat} {B : Nat} {SA : Nat → Nat} {h0 : Nat → Option JCell} (hs : CS B SA h0) : ∀ (v0 : Nat) (v1 : Int32) (C : CT) (r : Bool) (C9 : CT), CW B C → c_B_same N v0 v1 C = some (r, C9) → g_B_same N B v0 v1 (ovC C h0, ck C) = some (r, (ovC C9 h0, ck C9)) ∧ CW B C9 := by
  intro v0 v1 C r C9 hw h
  unfold c_B_same at h
  unfold g_B_same
  replace h := jgd_of h; obtain ⟨hb, h⟩ := h; refine jgd_go (c_job hb) ?_
  replace h := obd_of h; obtain ⟨x1, hx1, h⟩ := h; refine obd_go (t_B_keptAt hs _ _ _ _ hw hx1).1 ?_
  replace h := jon_or h; rcases h with ⟨rfl, h⟩ | ⟨a2, rfl, h⟩
  · refine jon_goN ?_
    obtain ⟨rfl, rfl⟩ := Prod.mk.inj (Option.some.inj h); exact ⟨rfl, hw⟩
  · refine jon_goS ?_
    replace h := jgd_of h; obtain ⟨hb, h⟩ := h; refine jgd_go (c_job hb) ?_
    replace h := cbd2_of h; obtain ⟨x3, C4, hx3, h⟩ := h; have hq := (t_B_gatherAsKept hs _ _ _ _ _ hw hx3); refine jbd2_go hq.1 ?_; replace hw := hq.2
    replace h := ite_or h; rcases h with ⟨hc, h⟩ | ⟨hc, h⟩
    · refine ite_goT hc ?_
      exact t_B_same_25 hs _ _ _ _ _ _ _ _ hw h
    · refine ite_goF hc ?_
      obtain ⟨rfl, rfl⟩ := Prod.mk.inj (Option.some.inj h); exact ⟨rfl, hw⟩
set_option maxRecDepth 10000 in
set_option maxHeartbeats 4000000 in
theorem t_Real_taken_66 {B : Nat} {SA : Nat → Nat} {h0 : Nat → Option JCell} (hs : CS B SA h0) : ∀ (s0 : Int64) (s1 : Bool) (s2 : Nat) (C : CT) (r : Int64), CW B C → c_Real_taken_66 s0 s1 s2 C = some r → g_Real_taken_66 s0 s1 s2 (ovC C h0) = some r ∧ True := by
  intro s0 s1 s2 C r hw h
  unfold c_Real_taken_66 at h
  unfold g_Real_taken_66
  replace h := jgd_of h; obtain ⟨hb, h⟩ := h; refine jgd_go (c_job hb) ?_
  replace h := obd_of h; obtain ⟨x1, hx1, h⟩ := h; refine obd_go (t_Real_signed hs _ _ _ _ _ hw hx1).1 ?_
  obtain rfl := Option.some.inj h; exact ⟨rfl, trivial⟩
set_option maxRecDepth 10000 in
set_option maxHeartbeats 4000000 in
theorem t_Real_taken_51 {B : Nat} {SA : Nat → Nat} {h0 : Nat → Option JCell} (hs : CS B SA h0) : ∀ (v0 : Nat) (v4 : Int64) (s0 : Bool) (s1 : Nat) (C : CT) (r : Int64), CW B C → c_Real_taken_51 v0 v4 s0 s1 C = some r → g_Real_taken_51 v0 v4 s0 s1 (ovC C h0) = some r ∧ True := by
  intro v0 v4 s0 s1 C r hw h
  unfold c_Real_taken_51 at h
  unfold g_Real_taken_51
  replace h := ite_or h; rcases h with ⟨hc, h⟩ | ⟨hc, h⟩
  · refine ite_goT hc ?_
    exact t_Real_taken_66 hs _ _ _ _ _ hw h
  · refine ite_goF hc ?_
    replace h := obd_of h; obtain ⟨x1, hx1, h⟩ := h
    refine obd_go (cg_J rfl hx1) ?_
    exact t_Real_taken_66 hs _ _ _ _ _ hw h
set_option maxRecDepth 10000 in
set_option maxHeartbeats 4000000 in
theorem t_Real_taken_39 {B : Nat} {SA : Nat → Nat} {h0 : Nat → Option JCell} (hs : CS B SA h0) : ∀ (v0 : Nat) (v2 : Int64) (v4 : Int64) (C : CT) (r : Int64), CW B C → c_Real_taken_39 v0 v2 v4 C = some r → g_Real_taken_39 v0 v2 v4 (ovC C h0) = some r ∧ True := by
  intro v0 v2 v4 C r hw h
  unfold c_Real_taken_39 at h
  unfold g_Real_taken_39
  replace h := ite_or h; rcases h with ⟨hc, h⟩ | ⟨hc, h⟩
  · refine ite_goT hc ?_
    exact t_Real_taken_51 hs _ _ _ _ _ _ hw h
  · refine ite_goF hc ?_
    exact t_Real_taken_51 hs _ _ _ _ _ _ hw h
set_option maxRecDepth 10000 in
set_option maxHeartbeats 4000000 in
theorem t_Real_taken_82 {B : Nat} {SA : Nat → Nat} {h0 : Nat → Option JCell} (hs : CS B SA h0) : ∀ (v1 : Nat) (v4 : Int64) (s0 : Bool) (s1 : Nat) (C : CT) (r : Int64), CW B C → c_Real_taken_82 v1 v4 s0 s1 C = some r → g_Real_taken_82 v1 v4 s0 s1 (ovC C h0) = some r ∧ True := by
  intro v1 v4 s0 s1 C r hw h
  unfold c_Real_taken_82 at h
  unfold g_Real_taken_82
  replace h := jgd_of h; obtain ⟨hb, h⟩ := h; refine jgd_go (c_job hb) ?_
  replace h := obd_of h; obtain ⟨x1, hx1, h⟩ := h; refine obd_go (t_Real_exponent hs _ _ _ _ hw hx1).1 ?_
  replace h := jgd_of h; obtain ⟨hb, h⟩ := h; refine jgd_go (c_job hb) ?_
  replace h := obd_of h; obtain ⟨x2, hx2, h⟩ := h; refine obd_go (t_Real_mantissa hs _ _ _ _ hw hx2).1 ?_
  replace h := jgd_of h; obtain ⟨hb, h⟩ := h; refine jgd_go (c_job hb) ?_
  replace h := obd_of h; obtain ⟨x3, hx3, h⟩ := h; refine obd_go (t_Real_packed hs _ _ _ _ _ _ hw hx3).1 ?_
  obtain rfl := Option.some.inj h; exact ⟨rfl, trivial⟩
set_option maxRecDepth 10000 in
set_option maxHeartbeats 4000000 in
theorem t_Real_taken {B : Nat} {SA : Nat → Nat} {h0 : Nat → Option JCell} (hs : CS B SA h0) : ∀ (v0 : Nat) (v1 : Option Nat) (v2 : Int64) (C : CT) (r : Int64), CW B C → c_Real_taken v0 v1 v2 C = some r → g_Real_taken v0 v1 v2 (ovC C h0) = some r ∧ True := by
  intro v0 v1 v2 C r hw h
  unfold c_Real_taken at h
  unfold g_Real_taken
  replace h := obd_of h; obtain ⟨a1, rfl, h⟩ := h; refine obd_go rfl ?_
  replace h := jgd_of h; obtain ⟨hb, h⟩ := h; refine jgd_go (c_job hb) ?_
  replace h := obd_of h; obtain ⟨x2, hx2, h⟩ := h; refine obd_go (t_Real_sizeOf hs _ _ _ _ hw hx2).1 ?_
  replace h := obd_of h; obtain ⟨x3, hx3, h⟩ := h
  refine obd_go (cg_J rfl hx3) ?_
  replace h := ite_or h; rcases h with ⟨hc, h⟩ | ⟨hc, h⟩
  · refine ite_goT hc ?_
    replace h := ite_or h; rcases h with ⟨hc, h⟩ | ⟨hc, h⟩
    · refine ite_goT hc ?_
      exact t_Real_taken_39 hs _ _ _ _ _ hw h
    · refine ite_goF hc ?_
      replace h := obd_of h; obtain ⟨x4, hx4, h⟩ := h
      refine obd_go (cg_J rfl hx4) ?_
      replace h := ite_or h; rcases h with ⟨hc, h⟩ | ⟨hc, h⟩
      · refine ite_goT hc ?_
        exact t_Real_taken_39 hs _ _ _ _ _ hw h
      · refine ite_goF hc ?_
        replace h := ite_or h; rcases h with ⟨hc, h⟩ | ⟨hc, h⟩
        · refine ite_goT hc ?_
          exact t_Real_taken_82 hs _ _ _ _ _ _ hw h
        · refine ite_goF hc ?_
          exact t_Real_taken_82 hs _ _ _ _ _ _ hw h
  · refine ite_goF hc ?_
    replace h := obd_of h; obtain ⟨x5, hx5, h⟩ := h
    refine obd_go (cg_J rfl hx5) ?_
    obtain rfl := Option.some.inj h; exact ⟨rfl, trivial⟩
set_option maxRecDepth 10000 in
set_option maxHeartbeats 4000000 in
theorem t_Real_meaning_e {B : Nat} {SA : Nat → Nat} {h0 : Nat → Option JCell} (hs : CS B SA h0) : ∀ (v0 : Nat) (v1 : Int64) (v4 : Option Nat) (C : CT) (r : Int64), CW B C → c_Real_meaning_e v0 v1 v4 C = some r → g_Real_meaning_e v0 v1 v4 (ovC C h0) = some r ∧ True := by
  intro v0 v1 v4 C r hw h
  unfold c_Real_meaning_e at h
  unfold g_Real_meaning_e
  replace h := obd_of h; obtain ⟨a1, rfl, h⟩ := h; refine obd_go rfl ?_
  replace h := jgd_of h; obtain ⟨hb, h⟩ := h; refine jgd_go (c_job hb) ?_
  replace h := obd_of h; obtain ⟨x2, hx2, h⟩ := h; refine obd_go (t_Real_taken hs _ _ _ _ _ hw hx2).1 ?_
  obtain rfl := Option.some.inj h; exact ⟨rfl, trivial⟩
set_option maxRecDepth 10000 in
set_option maxHeartbeats 4000000 in
theorem t_Real_meaning {B : Nat} {SA : Nat → Nat} {h0 : Nat → Option JCell} (hs : CS B SA h0) : ∀ (v0 : Nat) (v1 : Int64) (v3 : Bool) (v4 : Option Nat) (C : CT) (r : Int64), CW B C → c_Real_meaning v0 v1 v3 v4 C = some r → g_Real_meaning v0 v1 v3 v4 (ovC C h0) = some r ∧ True := by
  intro v0 v1 v3 v4 C r hw h
  exact t_Real_meaning_e hs v0 v1 v4 C r hw h
set_option maxRecDepth 10000 in
set_option maxHeartbeats 4000000 in
theorem t_Real_nearest_e {B : Nat} {SA : Nat → Nat} {h0 : Nat → Option JCell} (hs : CS B SA h0) : ∀ (v0 : Nat) (v1 : Int64) (v4 : Option Nat) (C : CT) (r : Int64), CW B C → c_Real_nearest_e v0 v1 v4 C = some r → g_Real_nearest_e v0 v1 v4 (ovC C h0) = some r ∧ True := by
  intro v0 v1 v4 C r hw h
  unfold c_Real_nearest_e at h
  unfold g_Real_nearest_e
  replace h := jgd_of h; obtain ⟨hb, h⟩ := h; refine jgd_go (c_job hb) ?_
  replace h := obd_of h; obtain ⟨x1, hx1, h⟩ := h; refine obd_go (t_Real_taken hs _ _ _ _ _ hw hx1).1 ?_
  obtain rfl := Option.some.inj h; exact ⟨rfl, trivial⟩
set_option maxRecDepth 10000 in
set_option maxHeartbeats 4000000 in
theorem t_Real_nearest {B : Nat} {SA : Nat → Nat} {h0 : Nat → Option JCell} (hs : CS B SA h0) : ∀ (v0 : Nat) (v1 : Int64) (v3 : Bool) (v4 : Option Nat) (C : CT) (r : Int64), CW B C → c_Real_nearest v0 v1 v3 v4 C = some r → g_Real_nearest v0 v1 v3 v4 (ovC C h0) = some r ∧ True := by
  intro v0 v1 v3 v4 C r hw h
  exact t_Real_nearest_e hs v0 v1 v4 C r hw h
set_option maxRecDepth 10000 in
set_option maxHeartbeats 4000000 in
theorem t_Real_scaled_22 {B : Nat} {SA : Nat → Nat} {h0 : Nat → Option JCell} (hs : CS B SA h0) : ∀ (v1 : Int64) (v3 : Int32) (s0 : Bool) (s1 : Nat) (C : CT) (r : Int64), CW B C → c_Real_scaled_22 v1 v3 s0 s1 C = some r → g_Real_scaled_22 v1 v3 s0 s1 (ovC C h0) = some r ∧ True := by
  intro v1 v3 s0 s1 C r hw h
  unfold c_Real_scaled_22 at h
  unfold g_Real_scaled_22
  replace h := jgd_of h; obtain ⟨hb, h⟩ := h; refine jgd_go (c_job hb) ?_
  replace h := obd_of h; obtain ⟨x1, hx1, h⟩ := h; refine obd_go (t_Real_packed hs _ _ _ _ _ _ hw hx1).1 ?_
  obtain rfl := Option.some.inj h; exact ⟨rfl, trivial⟩
set_option maxRecDepth 10000 in
set_option maxHeartbeats 4000000 in
theorem t_Real_scaled {B : Nat} {SA : Nat → Nat} {h0 : Nat → Option JCell} (hs : CS B SA h0) : ∀ (v0 : Nat) (v1 : Int64) (v3 : Int32) (C : CT) (r : Int64), CW B C → c_Real_scaled v0 v1 v3 C = some r → g_Real_scaled v0 v1 v3 (ovC C h0) = some r ∧ True := by
  intro v0 v1 v3 C r hw h
  unfold c_Real_scaled at h
  unfold g_Real_scaled
  replace h := ite_or h; rcases h with ⟨hc, h⟩ | ⟨hc, h⟩
  · refine ite_goT hc ?_
    obtain rfl := Option.some.inj h; exact ⟨rfl, trivial⟩
  · refine ite_goF hc ?_
    replace h := ite_or h; rcases h with ⟨hc, h⟩ | ⟨hc, h⟩
    · refine ite_goT hc ?_
      exact t_Real_scaled_22 hs _ _ _ _ _ _ hw h
    · refine ite_goF hc ?_
      exact t_Real_scaled_22 hs _ _ _ _ _ _ hw h
set_option maxRecDepth 10000 in
set_option maxHeartbeats 4000000 in
theorem t_Shorts_meaning_13 {B : Nat} {SA : Nat → Nat} {h0 : Nat → Option JCell} (hs : CS B SA h0) : ∀ (s0 : Int32) (s1 : Int64) (s2 : Option Nat) (C : CT) (r : Int64), CW B C → c_Shorts_meaning_13 s0 s1 s2 C = some r → g_Shorts_meaning_13 s0 s1 s2 (ovC C h0) = some r ∧ True := by
  intro s0 s1 s2 C r hw h
  unfold c_Shorts_meaning_13 at h
  unfold g_Shorts_meaning_13
  replace h := obd_of h; obtain ⟨a1, rfl, h⟩ := h; refine obd_go rfl ?_
  replace h := jgd_of h; obtain ⟨hb, h⟩ := h; refine jgd_go (c_job hb) ?_
  replace h := obd_of h; obtain ⟨x2, hx2, h⟩ := h; refine obd_go (t_Real_scaled hs _ _ _ _ _ hw hx2).1 ?_
  obtain rfl := Option.some.inj h; exact ⟨rfl, trivial⟩
set_option maxRecDepth 10000 in
set_option maxHeartbeats 4000000 in
theorem t_Shorts_meaning_e {B : Nat} {SA : Nat → Nat} {h0 : Nat → Option JCell} (hs : CS B SA h0) : ∀ (v1 : Int64) (v3 : Bool) (v4 : Option Nat) (C : CT) (r : Int64), CW B C → c_Shorts_meaning_e v1 v3 v4 C = some r → g_Shorts_meaning_e v1 v3 v4 (ovC C h0) = some r ∧ True := by
  intro v1 v3 v4 C r hw h
  unfold c_Shorts_meaning_e at h
  unfold g_Shorts_meaning_e
  replace h := ite_or h; rcases h with ⟨hc, h⟩ | ⟨hc, h⟩
  · refine ite_goT hc ?_
    exact t_Shorts_meaning_13 hs _ _ _ _ _ hw h
  · refine ite_goF hc ?_
    exact t_Shorts_meaning_13 hs _ _ _ _ _ hw h
set_option maxRecDepth 10000 in
set_option maxHeartbeats 4000000 in
theorem t_Shorts_meaning {B : Nat} {SA : Nat → Nat} {h0 : Nat → Option JCell} (hs : CS B SA h0) : ∀ (v0 : Nat) (v1 : Int64) (v3 : Bool) (v4 : Option Nat) (C : CT) (r : Int64), CW B C → c_Shorts_meaning v0 v1 v3 v4 C = some r → g_Shorts_meaning v0 v1 v3 v4 (ovC C h0) = some r ∧ True := by
  intro v0 v1 v3 v4 C r hw h
  exact t_Shorts_meaning_e hs v1 v3 v4 C r hw h
set_option maxRecDepth 10000 in
set_option maxHeartbeats 4000000 in
theorem t_Real_isFinite {B : Nat} {SA : Nat → Nat} {h0 : Nat → Option JCell} (hs : CS B SA h0) : ∀ (v0 : Nat) (v1 : Int64) (C : CT) (r : Bool), CW B C → c_Real_isFinite v0 v1 C = some r → g_Real_isFinite v0 v1 (ovC C h0) = some r ∧ True := by
  intro v0 v1 C r hw h
  unfold c_Real_isFinite at h
  unfold g_Real_isFinite
  replace h := obd_of h; obtain ⟨x1, hx1, h⟩ := h
  refine obd_go (cg_J rfl hx1) ?_
  replace h := obd_of h; obtain ⟨x2, hx2, h⟩ := h
  refine obd_go (cg_J rfl hx2) ?_
  replace h := ite_or h; rcases h with ⟨hc, h⟩ | ⟨hc, h⟩
  · refine ite_goT hc ?_
    obtain rfl := Option.some.inj h; exact ⟨rfl, trivial⟩
  · refine ite_goF hc ?_
    obtain rfl := Option.some.inj h; exact ⟨rfl, trivial⟩
set_option maxRecDepth 10000 in
set_option maxHeartbeats 4000000 in
theorem t_Shorts_nearest_25 {B : Nat} {SA : Nat → Nat} {h0 : Nat → Option JCell} (hs : CS B SA h0) : ∀ (v1 : Int64) (v4 : Nat) (v5 : Int64) (s0 : Int32) (s1 : Int32) (C : CT) (r : Int64), CW B C → c_Shorts_nearest_25 v1 v4 v5 s0 s1 C = some r → g_Shorts_nearest_25 v1 v4 v5 s0 s1 (ovC C h0) = some r ∧ True := by
  intro v1 v4 v5 s0 s1 C r hw h
  unfold c_Shorts_nearest_25 at h
  unfold g_Shorts_nearest_25
  replace h := jgd_of h; obtain ⟨hb, h⟩ := h; refine jgd_go (c_job hb) ?_
  replace h := obd_of h; obtain ⟨x1, hx1, h⟩ := h; refine obd_go (t_Real_isFinite hs _ _ _ _ hw hx1).1 ?_
  replace h := ite_or h; rcases h with ⟨hc, h⟩ | ⟨hc, h⟩
  · refine ite_goT hc ?_
    replace h := ite_or h; rcases h with ⟨hc, h⟩ | ⟨hc, h⟩
    · refine ite_goT hc ?_
      replace h := jgd_of h; obtain ⟨hb, h⟩ := h; refine jgd_go (c_job hb) ?_
      replace h := obd_of h; obtain ⟨x2, hx2, h⟩ := h; refine obd_go (t_Real_mantissa hs _ _ _ _ hw hx2).1 ?_
      replace h := jlet_of h; refine jlet_go ?_
      replace h := ite_or h; rcases h with ⟨hc, h⟩ | ⟨hc, h⟩
      · refine ite_goT hc ?_
        obtain rfl := Option.some.inj h; exact ⟨rfl, trivial⟩
      · refine ite_goF hc ?_
        obtain rfl := Option.some.inj h; exact ⟨rfl, trivial⟩
    · refine ite_goF hc ?_
      obtain rfl := Option.some.inj h; exact ⟨rfl, trivial⟩
  · refine ite_goF hc ?_
    obtain rfl := Option.some.inj h; exact ⟨rfl, trivial⟩
set_option maxRecDepth 10000 in
set_option maxHeartbeats 4000000 in
theorem t_Shorts_nearest_e {B : Nat} {SA : Nat → Nat} {h0 : Nat → Option JCell} (hs : CS B SA h0) : ∀ (v1 : Int64) (v3 : Bool) (v4 : Option Nat) (C : CT) (r : Int64), CW B C → c_Shorts_nearest_e v1 v3 v4 C = some r → g_Shorts_nearest_e v1 v3 v4 (ovC C h0) = some r ∧ True := by
  intro v1 v3 v4 C r hw h
  unfold c_Shorts_nearest_e at h
  unfold g_Shorts_nearest_e
  replace h := obd_of h; obtain ⟨a1, rfl, h⟩ := h; refine obd_go rfl ?_
  replace h := jgd_of h; obtain ⟨hb, h⟩ := h; refine jgd_go (c_job hb) ?_
  replace h := obd_of h; obtain ⟨x2, hx2, h⟩ := h; refine obd_go (t_Real_sizeOf hs _ _ _ _ hw hx2).1 ?_
  replace h := jgd_of h; obtain ⟨hb, h⟩ := h; refine jgd_go (c_job hb) ?_
  replace h := obd_of h; obtain ⟨x3, hx3, h⟩ := h; refine obd_go (t_Real_exponent hs _ _ _ _ hw hx3).1 ?_
  replace h := ite_or h; rcases h with ⟨hc, h⟩ | ⟨hc, h⟩
  · refine ite_goT hc ?_
    exact t_Shorts_nearest_25 hs _ _ _ _ _ _ _ hw h
  · refine ite_goF hc ?_
    exact t_Shorts_nearest_25 hs _ _ _ _ _ _ _ hw h
set_option maxRecDepth 10000 in
set_option maxHeartbeats 4000000 in
theorem t_Shorts_nearest {B : Nat} {SA : Nat → Nat} {h0 : Nat → Option JCell} (hs : CS B SA h0) : ∀ (v0 : Nat) (v1 : Int64) (v3 : Bool) (v4 : Option Nat) (C : CT) (r : Int64), CW B C → c_Shorts_nearest v0 v1 v3 v4 C = some r → g_Shorts_nearest v0 v1 v3 v4 (ovC C h0) = some r ∧ True := by
  intro v0 v1 v3 v4 C r hw h
  exact t_Shorts_nearest_e hs v1 v3 v4 C r hw h
set_option maxRecDepth 10000 in
set_option maxHeartbeats 4000000 in
theorem t_B_translated {B : Nat} {SA : Nat → Nat} {h0 : Nat → Option JCell} (hs : CS B SA h0) : ∀ (v0 : Nat) (v1 : Option Nat) (v2 : Int64) (v4 : Bool) (v5 : Option Nat) (C : CT) (r : Int64), CW B C → c_B_translated v0 v1 v2 v4 v5 C = some r → g_B_translated v0 v1 v2 v4 v5 (ovC C h0) = some r ∧ True := by
  intro v0 v1 v2 v4 v5 C r hw h
  unfold c_B_translated at h
  unfold g_B_translated
  replace h := obd_of h; obtain ⟨x1, hx1, h⟩ := h
  refine obd_go (cg_A rfl hx1) ?_
  replace h := obd_of h; obtain ⟨a2, rfl, h⟩ := h; refine obd_go rfl ?_
  replace h := obd_of h; obtain ⟨x3, hx3, h⟩ := h
  refine obd_go (y := x3) ?_ ?_
  · rcases ite_or hx3 with ⟨hb, hx⟩ | ⟨hb0, hx⟩
    · rw [if_pos (c_job hb)]; exact (t_Real_meaning hs _ _ _ _ _ _ hw hx).1
    · obtain ⟨hb, hx⟩ := jgd_of hx; rw [if_neg (c_job_ne hb (by decide)), c_job hb]; exact (t_Shorts_meaning hs _ _ _ _ _ _ hw hx).1
  replace h := obd_of h; obtain ⟨x4, hx4, h⟩ := h
  refine obd_go (cg_A rfl hx4) ?_
  replace h := obd_of h; obtain ⟨a5, rfl, h⟩ := h; refine obd_go rfl ?_
  replace h := obd_of h; obtain ⟨x6, hx6, h⟩ := h
  refine obd_go (y := x6) ?_ ?_
  · rcases ite_or hx6 with ⟨hb, hx⟩ | ⟨hb0, hx⟩
    · rw [if_pos (c_job hb)]; exact (t_Real_nearest hs _ _ _ _ _ _ hw hx).1
    · obtain ⟨hb, hx⟩ := jgd_of hx; rw [if_neg (c_job_ne hb (by decide)), c_job hb]; exact (t_Shorts_nearest hs _ _ _ _ _ _ hw hx).1
  obtain rfl := Option.some.inj h; exact ⟨rfl, trivial⟩
set_option maxRecDepth 10000 in
set_option maxHeartbeats 4000000 in
theorem t_Section_factorCount {B : Nat} {SA : Nat → Nat} {h0 : Nat → Option JCell} (hs : CS B SA h0) : ∀ (v0 : Nat) (C : CT) (r : Int32), CW B C → c_Section_factorCount v0 C = some r → g_Section_factorCount v0 (ovC C h0) = some r ∧ True := by
  intro v0 C r hw h
  unfold c_Section_factorCount at h
  unfold g_Section_factorCount
  replace h := obd_of h; obtain ⟨x1, hx1, h⟩ := h
  refine obd_go (cg_A rfl hx1) ?_
  replace h := obd_of h; obtain ⟨a2, rfl, h⟩ := h; refine obd_go rfl ?_
  replace h := obd_of h; obtain ⟨x3, hx3, h⟩ := h
  refine obd_go (ca_len hx3) ?_
  obtain rfl := Option.some.inj h; exact ⟨rfl, trivial⟩
set_option maxRecDepth 10000 in
set_option maxHeartbeats 4000000 in
theorem t_Section_takesWhole_18 {B : Nat} {SA : Nat → Nat} {h0 : Nat → Option JCell} (hs : CS B SA h0) : ∀ (C : CT) (r : Bool), CW B C → c_Section_takesWhole_18 C = some r → g_Section_takesWhole_18 (ovC C h0) = some r ∧ True := by
  intro C r hw h
  unfold c_Section_takesWhole_18 at h
  unfold g_Section_takesWhole_18
  obtain rfl := Option.some.inj h; exact ⟨rfl, trivial⟩
set_option maxRecDepth 10000 in
set_option maxHeartbeats 4000000 in
theorem t_Section_takesWhole {B : Nat} {SA : Nat → Nat} {h0 : Nat → Option JCell} (hs : CS B SA h0) : ∀ (v0 : Nat) (C : CT) (r : Bool), CW B C → c_Section_takesWhole v0 C = some r → g_Section_takesWhole v0 (ovC C h0) = some r ∧ True := by
  intro v0 C r hw h
  unfold c_Section_takesWhole at h
  unfold g_Section_takesWhole
  replace h := obd_of h; obtain ⟨x1, hx1, h⟩ := h
  refine obd_go (cg_I rfl hx1) ?_
  replace h := ite_or h; rcases h with ⟨hc, h⟩ | ⟨hc, h⟩
  · refine ite_goT hc ?_
    exact t_Section_takesWhole_18 hs  _ _ hw h
  · refine ite_goF hc ?_
    replace h := obd_of h; obtain ⟨x2, hx2, h⟩ := h
    refine obd_go (cg_I rfl hx2) ?_
    replace h := ite_or h; rcases h with ⟨hc, h⟩ | ⟨hc, h⟩
    · refine ite_goT hc ?_
      exact t_Section_takesWhole_18 hs  _ _ hw h
    · refine ite_goF hc ?_
      obtain rfl := Option.some.inj h; exact ⟨rfl, trivial⟩
set_option maxRecDepth 10000 in
set_option maxHeartbeats 4000000 in
theorem t_B_canTranslate_72 {N : Nat} {B : Nat} {SA : Nat → Nat} {h0 : Nat → Option JCell} (hs : CS B SA h0) {k2 : Nat → Option Nat → Option Nat → Int32 → CT → Option (Bool)} {k2G : Nat → Option Nat → Option Nat → Int32 → (Nat → Option JCell) → Option Bool} (i2 : ∀ (v0 : Nat) (v1 : Option Nat) (v2 : Option Nat) (v3 : Int32) (C : CT) (r : Bool), CW B C → k2 v0 v1 v2 v3 C = some r → k2G v0 v1 v2 v3 (ovC C h0) = some r ∧ True) : ∀ (v0 : Nat) (v1 : Nat) (v2 : Option Nat) (v3 : Int32) (C : CT) (r : Bool), CW B C → c_B_canTranslate_72 N k2 v0 v1 v2 v3 C = some r → g_B_canTranslate_72 N k2G v0 v1 v2 v3 (ovC C h0) = some r ∧ True := by
  intro v0 v1 v2 v3 C r hw h
  unfold c_B_canTranslate_72 at h
  unfold g_B_canTranslate_72
  exact i2 _ _ _ _ _ _ hw h
set_option maxRecDepth 10000 in
set_option maxHeartbeats 4000000 in
theorem t_B_canTranslate_20 {N : Nat} {B : Nat} {SA : Nat → Nat} {h0 : Nat → Option JCell} (hs : CS B SA h0) {k2 : Nat → Option Nat → Option Nat → Int32 → CT → Option (Bool)} {k2G : Nat → Option Nat → Option Nat → Int32 → (Nat → Option JCell) → Option Bool} (i2 : ∀ (v0 : Nat) (v1 : Option Nat) (v2 : Option Nat) (v3 : Int32) (C : CT) (r : Bool), CW B C → k2 v0 v1 v2 v3 C = some r → k2G v0 v1 v2 v3 (ovC C h0) = some r ∧ True) : ∀ (n : Nat), ∀ (v0 : Nat) (v1 : Nat) (v2 : Option Nat) (v3 : Int32) (v4 : Option Nat) (v5 : Int32) (C : CT) (r : Bool), CW B C → c_B_canTranslate_20 N k2 n v0 v1 v2 v3 v4 v5 C = some r → g_B_canTranslate_20 N k2G n v0 v1 v2 v3 v4 v5 (ovC C h0) = some r ∧ True := by
  intro n
  induction n with
  | zero =>
    intro v0 v1 v2 v3 v4 v5 C r hw h
    unfold c_B_canTranslate_20 at h
    cases h
  | succ n ih =>
    intro v0 v1 v2 v3 v4 v5 C r hw h
    unfold c_B_canTranslate_20 at h
    unfold g_B_canTranslate_20
    replace h := jon_or h; rcases h with ⟨rfl, h⟩ | ⟨a1, rfl, h⟩
    · refine jon_goN ?_
      exact t_B_canTranslate_72 hs i2 _ _ _ _ _ _ hw h
    · refine jon_goS ?_
      replace h := jgd_of h; obtain ⟨hb, h⟩ := h; refine jgd_go (c_job hb) ?_
      replace h := obd_of h; obtain ⟨x2, hx2, h⟩ := h; refine obd_go (t_Section_factorCount hs _ _ _ hw hx2).1 ?_
      replace h := ite_or h; rcases h with ⟨hc, h⟩ | ⟨hc, h⟩
      · refine ite_goT hc ?_
        exact t_B_canTranslate_72 hs i2 _ _ _ _ _ _ hw h
      · refine ite_goF hc ?_
        replace h := obd_of h; obtain ⟨x3, hx3, h⟩ := h
        refine obd_go (cg_A rfl hx3) ?_
        replace h := jgd_of h; obtain ⟨hb, h⟩ := h; refine jgd_go (c_job hb) ?_
        replace h := obd_of h; obtain ⟨x4, hx4, h⟩ := h; refine obd_go (t_Section_factor hs _ _ _ _ hw hx4).1 ?_
        replace h := jgd_of h; obtain ⟨hb, h⟩ := h; refine jgd_go (c_job hb) ?_
        replace h := obd_of h; obtain ⟨x5, hx5, h⟩ := h; refine obd_go (t_Section_takesWhole hs _ _ _ hw hx5).1 ?_
        replace h := jgd_of h; obtain ⟨hb, h⟩ := h; refine jgd_go (c_job hb) ?_
        replace h := obd_of h; obtain ⟨x6, hx6, h⟩ := h; refine obd_go (t_B_translated hs _ _ _ _ _ _ _ hw hx6).1 ?_
        replace h := obd_of h; obtain ⟨a7, rfl, h⟩ := h; refine obd_go rfl ?_
        replace h := obd_of h; obtain ⟨x8, hx8, h⟩ := h
        refine obd_go (y := x8) ?_ ?_
        · rcases ite_or hx8 with ⟨hb, hx⟩ | ⟨hb0, hx⟩
          · rw [if_pos (c_job hb)]; exact (t_Real_holds hs _ _ _ _ hw hx).1
          · obtain ⟨hb, hx⟩ := jgd_of hx; rw [if_neg (c_job_ne hb (by decide)), c_job hb]; exact hx
        replace h := ite_or h; rcases h with ⟨hc, h⟩ | ⟨hc, h⟩
        · refine ite_goT hc ?_
          exact ih _ _ _ _ _ _ _ _ hw h
        · refine ite_goF hc ?_
          obtain rfl := Option.some.inj h; exact ⟨rfl, trivial⟩
set_option maxRecDepth 10000 in
set_option maxHeartbeats 4000000 in
theorem t_B_canTranslate_90 {N : Nat} {B : Nat} {SA : Nat → Nat} {h0 : Nat → Option JCell} (hs : CS B SA h0) : ∀ (n : Nat), ∀ (v0 : Nat) (v1 : Nat) (v2 : Option Nat) (v3 : Option Nat) (v4 : Int32) (C : CT) (r : Bool), CW B C → c_B_canTranslate_90 N n v0 v1 v2 v3 v4 C = some r → g_B_canTranslate_90 N n v0 v1 v2 v3 v4 (ovC C h0) = some r ∧ True := by
  intro n
  induction n with
  | zero =>
    intro v0 v1 v2 v3 v4 C r hw h
    unfold c_B_canTranslate_90 at h
    cases h
  | succ n ih =>
    intro v0 v1 v2 v3 v4 C r hw h
    unfold c_B_canTranslate_90 at h
    unfold g_B_canTranslate_90
    replace h := obd_of h; obtain ⟨x1, hx1, h⟩ := h
    refine obd_go (cg_I rfl hx1) ?_
    replace h := ite_or h; rcases h with ⟨hc, h⟩ | ⟨hc, h⟩
    · refine ite_goT hc ?_
      obtain rfl := Option.some.inj h; exact ⟨rfl, trivial⟩
    · refine ite_goF hc ?_
      replace h := jgd_of h; obtain ⟨hb, h⟩ := h; refine jgd_go (c_job hb) ?_
      replace h := obd_of h; obtain ⟨x2, hx2, h⟩ := h; refine obd_go (t_Chain_loopAt hs _ _ _ _ hw hx2).1 ?_
      replace h := jon_or h; rcases h with ⟨rfl, h⟩ | ⟨a3, rfl, h⟩
      · refine jon_goN ?_
        obtain rfl := Option.some.inj h; exact ⟨rfl, trivial⟩
      · refine jon_goS ?_
        replace h := jon_or h; rcases h with ⟨rfl, h⟩ | ⟨a4, rfl, h⟩
        · refine jon_goN ?_
          obtain rfl := Option.some.inj h; exact ⟨rfl, trivial⟩
        · refine jon_goS ?_
          replace h := obd_of h; obtain ⟨x5, hx5, h⟩ := h
          refine obd_go (cg_J rfl hx5) ?_
          replace h := jgd_of h; obtain ⟨hb, h⟩ := h; refine jgd_go (c_job hb) ?_
          replace h := obd_of h; obtain ⟨x6, hx6, h⟩ := h; refine obd_go (t_B_translated hs _ _ _ _ _ _ _ hw hx6).1 ?_
          replace h := obd_of h; obtain ⟨a7, rfl, h⟩ := h; refine obd_go rfl ?_
          replace h := obd_of h; obtain ⟨x8, hx8, h⟩ := h
          refine obd_go (y := x8) ?_ ?_
          · rcases ite_or hx8 with ⟨hb, hx⟩ | ⟨hb0, hx⟩
            · rw [if_pos (c_job hb)]; exact (t_Real_holds hs _ _ _ _ hw hx).1
            · obtain ⟨hb, hx⟩ := jgd_of hx; rw [if_neg (c_job_ne hb (by decide)), c_job hb]; exact hx
          replace h := ite_or h; rcases h with ⟨hc, h⟩ | ⟨hc, h⟩
          · refine ite_goT hc ?_
            exact ih _ _ _ _ _ _ _ hw h
          · refine ite_goF hc ?_
            obtain rfl := Option.some.inj h; exact ⟨rfl, trivial⟩
set_option maxRecDepth 10000 in
set_option maxHeartbeats 4000000 in
theorem t_B_canTranslate_2 {N : Nat} {B : Nat} {SA : Nat → Nat} {h0 : Nat → Option JCell} (hs : CS B SA h0) : ∀ (n : Nat), ∀ (v0 : Nat) (v1 : Option Nat) (v2 : Option Nat) (v3 : Int32) (C : CT) (r : Bool), CW B C → c_B_canTranslate_2 N n v0 v1 v2 v3 C = some r → g_B_canTranslate_2 N n v0 v1 v2 v3 (ovC C h0) = some r ∧ True := by
  intro n
  induction n with
  | zero =>
    intro v0 v1 v2 v3 C r hw h
    unfold c_B_canTranslate_2 at h
    cases h
  | succ n ih =>
    intro v0 v1 v2 v3 C r hw h
    unfold c_B_canTranslate_2 at h
    unfold g_B_canTranslate_2
    replace h := obd_of h; obtain ⟨a1, rfl, h⟩ := h; refine obd_go rfl ?_
    replace h := obd_of h; obtain ⟨x2, hx2, h⟩ := h
    refine obd_go (cg_I rfl hx2) ?_
    replace h := ite_or h; rcases h with ⟨hc, h⟩ | ⟨hc, h⟩
    · refine ite_goT hc ?_
      replace h := jgd_of h; obtain ⟨hb, h⟩ := h; refine jgd_go (c_job hb) ?_
      replace h := obd_of h; obtain ⟨x3, hx3, h⟩ := h; refine obd_go (t_Chain_sort hs _ _ _ hw hx3).1 ?_
      replace h := jgd_of h; obtain ⟨hb, h⟩ := h; refine jgd_go (c_job hb) ?_
      replace h := obd_of h; obtain ⟨x4, hx4, h⟩ := h; refine obd_go (t_B_numbersOf hs _ _ _ _ hw hx4).1 ?_
      exact t_B_canTranslate_90 hs _ _ _ _ _ _ _ _ hw h
    · refine ite_goF hc ?_
      replace h := jgd_of h; obtain ⟨hb, h⟩ := h; refine jgd_go (c_job hb) ?_
      replace h := obd_of h; obtain ⟨x5, hx5, h⟩ := h; refine obd_go (t_Chain_memberAt hs _ _ _ _ hw hx5).1 ?_
      exact t_B_canTranslate_20 hs ih _ _ _ _ _ _ _ _ _ hw h
set_option maxRecDepth 10000 in
set_option maxHeartbeats 4000000 in
theorem t_B_canTranslate {N : Nat} {B : Nat} {SA : Nat → Nat} {h0 : Nat → Option JCell} (hs : CS B SA h0) : ∀ (v0 : Nat) (v1 : Option Nat) (v2 : Option Nat) (C : CT) (r : Bool), CW B C → c_B_canTranslate N v0 v1 v2 C = some r → g_B_canTranslate N v0 v1 v2 (ovC C h0) = some r ∧ True := by
  intro v0 v1 v2 C r hw h
  unfold c_B_canTranslate at h
  unfold g_B_canTranslate
  exact t_B_canTranslate_2 hs _ _ _ _ _ _ _ hw h
set_option maxRecDepth 10000 in
set_option maxHeartbeats 4000000 in
theorem t_B_canRemake_76 {N : Nat} {B : Nat} {SA : Nat → Nat} {h0 : Nat → Option JCell} (hs : CS B SA h0) : ∀ (v0 : Nat) (v3 : Int32) (v4 : Int32) (C : CT) (r : Bool) (C9 : CT), CW B C → c_B_canRemake_76 N v0 v3 v4 C = some (r, C9) → g_B_canRemake_76 N B v0 v3 v4 (ovC C h0, ck C) = some (r, (ovC C9 h0, ck C9)) ∧ CW B C9 := by
  intro v0 v3 v4 C r C9 hw h
  unfold c_B_canRemake_76 at h
  unfold g_B_canRemake_76
  replace h := obd_of h; obtain ⟨x1, hx1, h⟩ := h
  refine obd_go (cg_I rfl hx1) ?_
  replace h := ite_or h; rcases h with ⟨hc, h⟩ | ⟨hc, h⟩
  · refine ite_goT hc ?_
    obtain ⟨rfl, rfl⟩ := Prod.mk.inj (Option.some.inj h); exact ⟨rfl, hw⟩
  · refine ite_goF hc ?_
    replace h := obd_of h; obtain ⟨x2, hx2, h⟩ := h
    refine obd_go (cg_I rfl hx2) ?_
    replace h := ite_or h; rcases h with ⟨hc, h⟩ | ⟨hc, h⟩
    · refine ite_goT hc ?_
      obtain ⟨rfl, rfl⟩ := Prod.mk.inj (Option.some.inj h); exact ⟨rfl, hw⟩
    · refine ite_goF hc ?_
      obtain ⟨rfl, rfl⟩ := Prod.mk.inj (Option.some.inj h); exact ⟨rfl, hw⟩
set_option maxRecDepth 10000 in
set_option maxHeartbeats 4000000 in
theorem t_B_canRemake_12 {N : Nat} {B : Nat} {SA : Nat → Nat} {h0 : Nat → Option JCell} (hs : CS B SA h0) : ∀ (n : Nat), ∀ (v0 : Nat) (v2 : Option Nat) (v3 : Int32) (v4 : Int32) (v5 : Int32) (C : CT) (r : Bool) (C9 : CT), CW B C → c_B_canRemake_12 N n v0 v2 v3 v4 v5 C = some (r, C9) → g_B_canRemake_12 N B n v0 v2 v3 v4 v5 (ovC C h0, ck C) = some (r, (ovC C9 h0, ck C9)) ∧ CW B C9 := by
  intro n
  induction n with
  | zero =>
    intro v0 v2 v3 v4 v5 C r C9 hw h
    unfold c_B_canRemake_12 at h
    cases h
  | succ n ih =>
    intro v0 v2 v3 v4 v5 C r C9 hw h
    unfold c_B_canRemake_12 at h
    unfold g_B_canRemake_12
    replace h := ite_or h; rcases h with ⟨hc, h⟩ | ⟨hc, h⟩
    · refine ite_goT hc ?_
      exact t_B_canRemake_76 hs _ _ _ _ _ _ hw h
    · refine ite_goF hc ?_
      replace h := obd_of h; obtain ⟨x1, hx1, h⟩ := h
      refine obd_go (cg_A rfl hx1) ?_
      replace h := obd_of h; obtain ⟨a2, rfl, h⟩ := h; refine obd_go rfl ?_
      replace h := obd_of h; obtain ⟨x3, hx3, h⟩ := h
      refine obd_go (ca_len hx3) ?_
      replace h := ite_or h; rcases h with ⟨hc, h⟩ | ⟨hc, h⟩
      · refine ite_goT hc ?_
        exact t_B_canRemake_76 hs _ _ _ _ _ _ hw h
      · refine ite_goF hc ?_
        replace h := obd_of h; obtain ⟨x4, hx4, h⟩ := h
        refine obd_go (cg_A rfl hx4) ?_
        replace h := obd_of h; obtain ⟨a5, rfl, h⟩ := h; refine obd_go rfl ?_
        replace h := obd_of h; obtain ⟨x6, hx6, h⟩ := h
        refine obd_go (ca_A hx6) ?_
        replace h := jon_or h; rcases h with ⟨rfl, h⟩ | ⟨a7, rfl, h⟩
        · refine jon_goN ?_
          obtain ⟨rfl, rfl⟩ := Prod.mk.inj (Option.some.inj h); exact ⟨rfl, hw⟩
        · refine jon_goS ?_
          replace h := obd_of h; obtain ⟨x8, hx8, h⟩ := h
          refine obd_go (cg_A rfl hx8) ?_
          replace h := obd_of h; obtain ⟨a9, rfl, h⟩ := h; refine obd_go rfl ?_
          replace h := obd_of h; obtain ⟨x10, hx10, h⟩ := h
          refine obd_go (ca_A hx10) ?_
          replace h := jgd_of h; obtain ⟨hb, h⟩ := h; refine jgd_go (c_job hb) ?_
          replace h := obd_of h; obtain ⟨x11, hx11, h⟩ := h; refine obd_go (t_B_canTranslate hs _ _ _ _ _ hw hx11).1 ?_
          replace h := ite_or h; rcases h with ⟨hc, h⟩ | ⟨hc, h⟩
          · refine ite_goT hc ?_
            replace h := obd_of h; obtain ⟨x12, hx12, h⟩ := h
            refine obd_go (cg_A rfl hx12) ?_
            replace h := obd_of h; obtain ⟨a13, rfl, h⟩ := h; refine obd_go rfl ?_
            replace h := obd_of h; obtain ⟨x14, hx14, h⟩ := h
            refine obd_go (ca_A hx14) ?_
            replace h := obd_of h; obtain ⟨a15, rfl, h⟩ := h; refine obd_go rfl ?_
            replace h := obd_of h; obtain ⟨x16, hx16, h⟩ := h
            refine obd_go (cg_I rfl hx16) ?_
            exact ih _ _ _ _ _ _ _ _ hw h
          · refine ite_goF hc ?_
            obtain ⟨rfl, rfl⟩ := Prod.mk.inj (Option.some.inj h); exact ⟨rfl, hw⟩
set_option maxRecDepth 10000 in
set_option maxHeartbeats 4000000 in
theorem t_B_canRemake {N : Nat} {B : Nat} {SA : Nat → Nat} {h0 : Nat → Option JCell} (hs : CS B SA h0) : ∀ (v0 : Nat) (v1 : Option Nat) (v2 : Option Nat) (C : CT) (r : Bool) (C9 : CT), CW B C → c_B_canRemake N v0 v1 v2 C = some (r, C9) → g_B_canRemake N B v0 v1 v2 (ovC C h0, ck C) = some (r, (ovC C9 h0, ck C9)) ∧ CW B C9 := by
  intro v0 v1 v2 C r C9 hw h
  unfold c_B_canRemake at h
  unfold g_B_canRemake
  replace h := jgd_of h; obtain ⟨hb, h⟩ := h; refine jgd_go (c_job hb) ?_
  replace h := cbd2_of h; obtain ⟨x1, C2, hx1, h⟩ := h; have hq := (t_B_gather hs _ _ _ _ _ hw hx1); refine jbd2_go hq.1 ?_; replace hw := hq.2
  exact t_B_canRemake_12 hs _ _ _ _ _ _ _ _ _ hw h
set_option maxRecDepth 10000 in
set_option maxHeartbeats 4000000 in
theorem t_B_remadeSection_26 {N : Nat} {B : Nat} {SA : Nat → Nat} {h0 : Nat → Option JCell} (hs : CS B SA h0) : ∀ (n : Nat), ∀ (v0 : Nat) (v1 : Nat) (v2 : Int32) (v3 : Option Nat) (v4 : Nat) (v5 : Int32) (C : CT) (r : Option Nat) (C9 : CT), CW B C → c_B_remadeSection_26 N n v0 v1 v2 v3 v4 v5 C = some (r, C9) → g_B_remadeSection_26 N B SA n v0 v1 v2 v3 v4 v5 (ovC C h0, ck C) = some (r, (ovC C9 h0, ck C9)) ∧ CW B C9 := by
  intro n
  induction n with
  | zero =>
    intro v0 v1 v2 v3 v4 v5 C r C9 hw h
    unfold c_B_remadeSection_26 at h
    cases h
  | succ n ih =>
    intro v0 v1 v2 v3 v4 v5 C r C9 hw h
    unfold c_B_remadeSection_26 at h
    unfold g_B_remadeSection_26
    replace h := jgd_of h; obtain ⟨hb, h⟩ := h; refine jgd_go (c_job hb) ?_
    replace h := obd_of h; obtain ⟨x1, hx1, h⟩ := h; refine obd_go (t_Section_factorCount hs _ _ _ hw hx1).1 ?_
    replace h := ite_or h; rcases h with ⟨hc, h⟩ | ⟨hc, h⟩
    · refine ite_goT hc ?_
      replace h := obd_of h; obtain ⟨x2, hx2, h⟩ := h
      refine obd_go (cg_I rfl hx2) ?_
      replace h := ite_or h; rcases h with ⟨hc, h⟩ | ⟨hc, h⟩
      · refine ite_goT hc ?_
        replace h := ite_or h; rcases h with ⟨hc, h⟩ | ⟨hc, h⟩
        · refine ite_goT hc ?_
          replace h := obd_of h; obtain ⟨x3, hx3, h⟩ := h
          refine obd_go (cg_I rfl hx3) ?_
          replace h := obd_of h; obtain ⟨C4, hC4, h⟩ := h
          refine obd_go (cp_I rfl hw hC4).1 ?_; replace hw := (cp_I (h0 := h0) rfl hw hC4).2
          replace h := obd_of h; obtain ⟨x5, hx5, h⟩ := h
          refine obd_go (cg_I rfl hx5) ?_
          replace h := obd_of h; obtain ⟨C6, hC6, h⟩ := h
          refine obd_go (cp_I rfl hw hC6).1 ?_; replace hw := (cp_I (h0 := h0) rfl hw hC6).2
          obtain ⟨rfl, rfl⟩ := Prod.mk.inj (Option.some.inj h); exact ⟨rfl, hw⟩
        · refine ite_goF hc ?_
          obtain ⟨rfl, rfl⟩ := Prod.mk.inj (Option.some.inj h); exact ⟨rfl, hw⟩
      · refine ite_goF hc ?_
        obtain ⟨rfl, rfl⟩ := Prod.mk.inj (Option.some.inj h); exact ⟨rfl, hw⟩
    · refine ite_goF hc ?_
      replace h := obd_of h; obtain ⟨x7, hx7, h⟩ := h
      refine obd_go (cg_A rfl hx7) ?_
      replace h := jgd_of h; obtain ⟨hb, h⟩ := h; refine jgd_go (c_job hb) ?_
      replace h := obd_of h; obtain ⟨x8, hx8, h⟩ := h; refine obd_go (t_Section_factor hs _ _ _ _ hw hx8).1 ?_
      replace h := jgd_of h; obtain ⟨hb, h⟩ := h; refine jgd_go (c_job hb) ?_
      replace h := obd_of h; obtain ⟨x9, hx9, h⟩ := h; refine obd_go (t_Section_takesWhole hs _ _ _ hw hx9).1 ?_
      replace h := jgd_of h; obtain ⟨hb, h⟩ := h; refine jgd_go (c_job hb) ?_
      replace h := obd_of h; obtain ⟨x10, hx10, h⟩ := h; refine obd_go (t_B_translated hs _ _ _ _ _ _ _ hw hx10).1 ?_
      replace h := jgd_of h; obtain ⟨hb, h⟩ := h; refine jgd_go (c_job hb) ?_
      replace h := obd_of h; obtain ⟨C11, hC11, h⟩ := h; have hq := (t_Section_setFactor hs _ _ _ _ _ hw hC11); refine obd_go hq.1 ?_; replace hw := hq.2
      exact ih _ _ _ _ _ _ _ _ _ hw h
set_option maxRecDepth 10000 in
set_option maxHeartbeats 4000000 in
theorem t_B_remadeSection {N : Nat} {B : Nat} {SA : Nat → Nat} {h0 : Nat → Option JCell} (hs : CS B SA h0) : ∀ (v0 : Nat) (v1 : Option Nat) (v2 : Int32) (v3 : Option Nat) (C : CT) (r : Option Nat) (C9 : CT), CW B C → c_B_remadeSection N v0 v1 v2 v3 C = some (r, C9) → g_B_remadeSection N B SA v0 v1 v2 v3 (ovC C h0, ck C) = some (r, (ovC C9 h0, ck C9)) ∧ CW B C9 := by
  intro v0 v1 v2 v3 C r C9 hw h
  unfold c_B_remadeSection at h
  unfold g_B_remadeSection
  replace h := obd_of h; obtain ⟨a1, rfl, h⟩ := h; refine obd_go rfl ?_
  replace h := obd_of h; obtain ⟨x2, hx2, h⟩ := h
  refine obd_go (cg_I rfl hx2) ?_
  replace h := obd_of h; obtain ⟨x3, hx3, h⟩ := h
  refine obd_go (cg_I rfl hx3) ?_
  replace h := jgd_of h; obtain ⟨hb, h⟩ := h; refine jgd_go (c_job hb) ?_
  replace h := cbd2_of h; obtain ⟨x4, C5, hx4, h⟩ := h; have hq := (t_B_newSection hs _ _ _ _ _ _ _ _ hw hx4); refine jbd2_go hq.1 ?_; replace hw := hq.2
  replace h := jon_or h; rcases h with ⟨rfl, h⟩ | ⟨a6, rfl, h⟩
  · refine jon_goN ?_
    obtain ⟨rfl, rfl⟩ := Prod.mk.inj (Option.some.inj h); exact ⟨rfl, hw⟩
  · refine jon_goS ?_
    exact t_B_remadeSection_26 hs _ _ _ _ _ _ _ _ _ _ hw h
set_option maxRecDepth 10000 in
set_option maxHeartbeats 4000000 in
theorem t_B_remakeLoops_82 {N : Nat} {B : Nat} {SA : Nat → Nat} {h0 : Nat → Option JCell} (hs : CS B SA h0) {k13 : Nat → Nat → Option Nat → Option Nat → Option Nat → Int32 → CT → Option CT} {k13G : Nat → Nat → Option Nat → Option Nat → Option Nat → Int32 → JMem → Option JMem} (i13 : ∀ (v0 : Nat) (v1 : Nat) (v2 : Option Nat) (v3 : Option Nat) (v4 : Option Nat) (v5 : Int32) (C C9 : CT), CW B C → k13 v0 v1 v2 v3 v4 v5 C = some C9 → k13G v0 v1 v2 v3 v4 v5 (ovC C h0, ck C) = some (ovC C9 h0, ck C9) ∧ CW B C9) : ∀ (v0 : Nat) (v1 : Nat) (v2 : Option Nat) (v3 : Option Nat) (v4 : Option Nat) (v5 : Int32) (C C9 : CT), CW B C → c_B_remakeLoops_82 N k13 v0 v1 v2 v3 v4 v5 C = some C9 → g_B_remakeLoops_82 N B k13G v0 v1 v2 v3 v4 v5 (ovC C h0, ck C) = some (ovC C9 h0, ck C9) ∧ CW B C9 := by
  intro v0 v1 v2 v3 v4 v5 C C9 hw h
  unfold c_B_remakeLoops_82 at h
  unfold g_B_remakeLoops_82
  exact i13 _ _ _ _ _ _ _ _ hw h
set_option maxRecDepth 10000 in
set_option maxHeartbeats 4000000 in
theorem t_B_remakeLoops_13 {N : Nat} {B : Nat} {SA : Nat → Nat} {h0 : Nat → Option JCell} (hs : CS B SA h0) : ∀ (n : Nat), ∀ (v0 : Nat) (v1 : Nat) (v2 : Option Nat) (v3 : Option Nat) (v4 : Option Nat) (v5 : Int32) (C C9 : CT), CW B C → c_B_remakeLoops_13 N n v0 v1 v2 v3 v4 v5 C = some C9 → g_B_remakeLoops_13 N B n v0 v1 v2 v3 v4 v5 (ovC C h0, ck C) = some (ovC C9 h0, ck C9) ∧ CW B C9 := by
  intro n
  induction n with
  | zero =>
    intro v0 v1 v2 v3 v4 v5 C C9 hw h
    unfold c_B_remakeLoops_13 at h
    cases h
  | succ n ih =>
    intro v0 v1 v2 v3 v4 v5 C C9 hw h
    unfold c_B_remakeLoops_13 at h
    unfold g_B_remakeLoops_13
    replace h := obd_of h; obtain ⟨x1, hx1, h⟩ := h
    refine obd_go (cg_I rfl hx1) ?_
    replace h := ite_or h; rcases h with ⟨hc, h⟩ | ⟨hc, h⟩
    · refine ite_goT hc ?_
      obtain rfl := Option.some.inj h; exact ⟨rfl, hw⟩
    · refine ite_goF hc ?_
      replace h := jgd_of h; obtain ⟨hb, h⟩ := h; refine jgd_go (c_job hb) ?_
      replace h := obd_of h; obtain ⟨x2, hx2, h⟩ := h; refine obd_go (t_Chain_loopAt hs _ _ _ _ hw hx2).1 ?_
      replace h := jon_or h; rcases h with ⟨rfl, h⟩ | ⟨a3, rfl, h⟩
      · refine jon_goN ?_
        exact t_B_remakeLoops_82 hs ih _ _ _ _ _ _ _ _ hw h
      · refine jon_goS ?_
        replace h := jon_or h; rcases h with ⟨rfl, h⟩ | ⟨a4, rfl, h⟩
        · refine jon_goN ?_
          exact t_B_remakeLoops_82 hs ih _ _ _ _ _ _ _ _ hw h
        · refine jon_goS ?_
          replace h := cnew_of h; refine jnew_go hw (by decide) ?_; replace hw := cw_new (ci := 4) hw (by decide)
          replace h := obd_of h; obtain ⟨x7, hx7, h⟩ := h
          refine obd_go (cg_I rfl hx7) ?_
          replace h := obd_of h; obtain ⟨x8, hx8, h⟩ := h
          refine obd_go (cg_I rfl hx8) ?_
          replace h := obd_of h; obtain ⟨x9, hx9, h⟩ := h
          refine obd_go (cg_A rfl hx9) ?_
          replace h := obd_of h; obtain ⟨a10, rfl, h⟩ := h; refine obd_go rfl ?_
          replace h := jgd_of h; obtain ⟨hb, h⟩ := h; refine jgd_go (c_job hb) ?_
          replace h := obd_of h; obtain ⟨x11, hx11, h⟩ := h; refine obd_go (t_Row_size hs _ _ _ hw hx11).1 ?_
          replace h := obd_of h; obtain ⟨x12, hx12, h⟩ := h
          refine obd_go (cg_J rfl hx12) ?_
          replace h := jgd_of h; obtain ⟨hb, h⟩ := h; refine jgd_go (c_job hb) ?_
          replace h := obd_of h; obtain ⟨x13, hx13, h⟩ := h; refine obd_go (t_B_translated hs _ _ _ _ _ _ _ hw hx13).1 ?_
          replace h := obd_of h; obtain ⟨C14, hC14, h⟩ := h; have hq := (t_Loop_init hs _ _ _ _ _ _ _ hw hC14); refine obd_go hq.1 ?_; replace hw := hq.2
          replace h := obd_of h; obtain ⟨a15, rfl, h⟩ := h; refine obd_go rfl ?_
          replace h := jgd_of h; obtain ⟨hb, h⟩ := h; refine jgd_go (c_job hb) ?_
          replace h := obd_of h; obtain ⟨C16, hC16, h⟩ := h; have hq := (t_Chain_tie hs _ _ _ _ hw hC16); refine obd_go hq.1 ?_; replace hw := hq.2
          exact t_B_remakeLoops_82 hs ih _ _ _ _ _ _ _ _ hw h
set_option maxRecDepth 10000 in
set_option maxHeartbeats 4000000 in
theorem t_B_remakeLoops {N : Nat} {B : Nat} {SA : Nat → Nat} {h0 : Nat → Option JCell} (hs : CS B SA h0) : ∀ (v0 : Nat) (v1 : Option Nat) (v2 : Option Nat) (v3 : Option Nat) (C C9 : CT), CW B C → c_B_remakeLoops N v0 v1 v2 v3 C = some C9 → g_B_remakeLoops N B v0 v1 v2 v3 (ovC C h0, ck C) = some (ovC C9 h0, ck C9) ∧ CW B C9 := by
  intro v0 v1 v2 v3 C C9 hw h
  unfold c_B_remakeLoops at h
  unfold g_B_remakeLoops
  replace h := obd_of h; obtain ⟨a1, rfl, h⟩ := h; refine obd_go rfl ?_
  replace h := jgd_of h; obtain ⟨hb, h⟩ := h; refine jgd_go (c_job hb) ?_
  replace h := obd_of h; obtain ⟨x2, hx2, h⟩ := h; refine obd_go (t_Chain_sort hs _ _ _ hw hx2).1 ?_
  replace h := jgd_of h; obtain ⟨hb, h⟩ := h; refine jgd_go (c_job hb) ?_
  replace h := obd_of h; obtain ⟨x3, hx3, h⟩ := h; refine obd_go (t_B_numbersOf hs _ _ _ _ hw hx3).1 ?_
  exact t_B_remakeLoops_13 hs _ _ _ _ _ _ _ _ _ hw h
set_option maxRecDepth 10000 in
set_option maxHeartbeats 4000000 in
theorem t_B_remade_117 {N : Nat} {B : Nat} {SA : Nat → Nat} {h0 : Nat → Option JCell} (hs : CS B SA h0) {kS : Nat → Option Nat → Int32 → Option Nat → Int32 → CT → Option (Option Nat × CT)} {kSG : Nat → Option Nat → Int32 → Option Nat → Int32 → JMem → Option (Option Nat × JMem)} (iS : ∀ (v0 : Nat) (v1 : Option Nat) (v2 : Int32) (v3 : Option Nat) (v4 : Int32) (C : CT) (r : Option Nat) (C9 : CT), CW B C → kS v0 v1 v2 v3 v4 C = some (r, C9) → kSG v0 v1 v2 v3 v4 (ovC C h0, ck C) = some (r, (ovC C9 h0, ck C9)) ∧ CW B C9) {k21 : Nat → Option Nat → Int32 → Option Nat → Int32 → Nat → Int32 → CT → Option (Option Nat × CT)} {k21G : Nat → Option Nat → Int32 → Option Nat → Int32 → Nat → Int32 → JMem → Option (Option Nat × JMem)} (i21 : ∀ (v0 : Nat) (v1 : Option Nat) (v2 : Int32) (v3 : Option Nat) (v4 : Int32) (v5 : Nat) (v6 : Int32) (C : CT) (r : Option Nat) (C9 : CT), CW B C → k21 v0 v1 v2 v3 v4 v5 v6 C = some (r, C9) → k21G v0 v1 v2 v3 v4 v5 v6 (ovC C h0, ck C) = some (r, (ovC C9 h0, ck C9)) ∧ CW B C9) : ∀ (v0 : Nat) (v1 : Nat) (v2 : Int32) (v3 : Option Nat) (v4 : Int32) (v5 : Nat) (v6 : Int32) (C : CT) (r : Option Nat) (C9 : CT), CW B C → c_B_remade_117 N kS k21 v0 v1 v2 v3 v4 v5 v6 C = some (r, C9) → g_B_remade_117 N B SA kSG k21G v0 v1 v2 v3 v4 v5 v6 (ovC C h0, ck C) = some (r, (ovC C9 h0, ck C9)) ∧ CW B C9 := by
  intro v0 v1 v2 v3 v4 v5 v6 C r C9 hw h
  unfold c_B_remade_117 at h
  unfold g_B_remade_117
  exact i21 _ _ _ _ _ _ _ _ _ _ hw h
set_option maxRecDepth 10000 in
set_option maxHeartbeats 4000000 in
theorem t_B_remade_72 {N : Nat} {B : Nat} {SA : Nat → Nat} {h0 : Nat → Option JCell} (hs : CS B SA h0) {kS : Nat → Option Nat → Int32 → Option Nat → Int32 → CT → Option (Option Nat × CT)} {kSG : Nat → Option Nat → Int32 → Option Nat → Int32 → JMem → Option (Option Nat × JMem)} (iS : ∀ (v0 : Nat) (v1 : Option Nat) (v2 : Int32) (v3 : Option Nat) (v4 : Int32) (C : CT) (r : Option Nat) (C9 : CT), CW B C → kS v0 v1 v2 v3 v4 C = some (r, C9) → kSG v0 v1 v2 v3 v4 (ovC C h0, ck C) = some (r, (ovC C9 h0, ck C9)) ∧ CW B C9) {k21 : Nat → Option Nat → Int32 → Option Nat → Int32 → Nat → Int32 → CT → Option (Option Nat × CT)} {k21G : Nat → Option Nat → Int32 → Option Nat → Int32 → Nat → Int32 → JMem → Option (Option Nat × JMem)} (i21 : ∀ (v0 : Nat) (v1 : Option Nat) (v2 : Int32) (v3 : Option Nat) (v4 : Int32) (v5 : Nat) (v6 : Int32) (C : CT) (r : Option Nat) (C9 : CT), CW B C → k21 v0 v1 v2 v3 v4 v5 v6 C = some (r, C9) → k21G v0 v1 v2 v3 v4 v5 v6 (ovC C h0, ck C) = some (r, (ovC C9 h0, ck C9)) ∧ CW B C9) : ∀ (v0 : Nat) (v1 : Nat) (v2 : Int32) (v3 : Option Nat) (v4 : Int32) (v5 : Nat) (v6 : Int32) (v7 : Nat) (s0 : Option Nat) (C : CT) (r : Option Nat) (C9 : CT), CW B C → c_B_remade_72 N kS k21 v0 v1 v2 v3 v4 v5 v6 v7 s0 C = some (r, C9) → g_B_remade_72 N B SA kSG k21G v0 v1 v2 v3 v4 v5 v6 v7 s0 (ovC C h0, ck C) = some (r, (ovC C9 h0, ck C9)) ∧ CW B C9 := by
  intro v0 v1 v2 v3 v4 v5 v6 v7 s0 C r C9 hw h
  unfold c_B_remade_72 at h
  unfold g_B_remade_72
  replace h := jgd_of h; obtain ⟨hb, h⟩ := h; refine jgd_go (c_job hb) ?_
  replace h := cbd2_of h; obtain ⟨x1, C2, hx1, h⟩ := h; have hq := (t_B_remadeSection hs _ _ _ _ _ _ _ hw hx1); refine jbd2_go hq.1 ?_; replace hw := hq.2
  replace h := jon_or h; rcases h with ⟨rfl, h⟩ | ⟨a3, rfl, h⟩
  · refine jon_goN ?_
    obtain ⟨rfl, rfl⟩ := Prod.mk.inj (Option.some.inj h); exact ⟨rfl, hw⟩
  · refine jon_goS ?_
    replace h := jgd_of h; obtain ⟨hb, h⟩ := h; refine jgd_go (c_job hb) ?_
    replace h := obd_of h; obtain ⟨C4, hC4, h⟩ := h; have hq := (t_Chain_join hs _ _ _ _ hw hC4); refine obd_go hq.1 ?_; replace hw := hq.2
    replace h := jon_or h; rcases h with ⟨rfl, h⟩ | ⟨a5, rfl, h⟩
    · refine jon_goN ?_
      exact t_B_remade_117 hs iS i21 _ _ _ _ _ _ _ _ _ _ hw h
    · refine jon_goS ?_
      replace h := obd_of h; obtain ⟨C6, hC6, h⟩ := h
      refine obd_go (cp_A rfl hw hC6).1 ?_; replace hw := (cp_A (h0 := h0) rfl hw hC6).2
      replace h := obd_of h; obtain ⟨C7, hC7, h⟩ := h
      refine obd_go (cp_A rfl hw hC7).1 ?_; replace hw := (cp_A (h0 := h0) rfl hw hC7).2
      exact t_B_remade_117 hs iS i21 _ _ _ _ _ _ _ _ _ _ hw h
set_option maxRecDepth 10000 in
set_option maxHeartbeats 4000000 in
theorem t_B_remade_21 {N : Nat} {B : Nat} {SA : Nat → Nat} {h0 : Nat → Option JCell} (hs : CS B SA h0) {kS : Nat → Option Nat → Int32 → Option Nat → Int32 → CT → Option (Option Nat × CT)} {kSG : Nat → Option Nat → Int32 → Option Nat → Int32 → JMem → Option (Option Nat × JMem)} (iS : ∀ (v0 : Nat) (v1 : Option Nat) (v2 : Int32) (v3 : Option Nat) (v4 : Int32) (C : CT) (r : Option Nat) (C9 : CT), CW B C → kS v0 v1 v2 v3 v4 C = some (r, C9) → kSG v0 v1 v2 v3 v4 (ovC C h0, ck C) = some (r, (ovC C9 h0, ck C9)) ∧ CW B C9) : ∀ (n : Nat), ∀ (v0 : Nat) (v1 : Option Nat) (v2 : Int32) (v3 : Option Nat) (v4 : Int32) (v5 : Nat) (v6 : Int32) (C : CT) (r : Option Nat) (C9 : CT), CW B C → c_B_remade_21 N kS n v0 v1 v2 v3 v4 v5 v6 C = some (r, C9) → g_B_remade_21 N B SA kSG n v0 v1 v2 v3 v4 v5 v6 (ovC C h0, ck C) = some (r, (ovC C9 h0, ck C9)) ∧ CW B C9 := by
  intro n
  induction n with
  | zero =>
    intro v0 v1 v2 v3 v4 v5 v6 C r C9 hw h
    unfold c_B_remade_21 at h
    cases h
  | succ n ih =>
    intro v0 v1 v2 v3 v4 v5 v6 C r C9 hw h
    unfold c_B_remade_21 at h
    unfold g_B_remade_21
    replace h := obd_of h; obtain ⟨a1, rfl, h⟩ := h; refine obd_go rfl ?_
    replace h := obd_of h; obtain ⟨x2, hx2, h⟩ := h
    refine obd_go (cg_I rfl hx2) ?_
    replace h := ite_or h; rcases h with ⟨hc, h⟩ | ⟨hc, h⟩
    · refine ite_goT hc ?_
      replace h := jgd_of h; obtain ⟨hb, h⟩ := h; refine jgd_go (c_job hb) ?_
      replace h := obd_of h; obtain ⟨C3, hC3, h⟩ := h; have hq := (t_B_remakeLoops hs _ _ _ _ _ _ hw hC3); refine obd_go hq.1 ?_; replace hw := hq.2
      replace h := jgd_of h; obtain ⟨hb, h⟩ := h; refine jgd_go (c_job hb) ?_
      replace h := cbd2_of h; obtain ⟨x4, C5, hx4, h⟩ := h; have hq := (t_B_registered hs _ _ _ _ _ hw hx4); refine jbd2_go hq.1 ?_; replace hw := hq.2
      obtain ⟨rfl, rfl⟩ := Prod.mk.inj (Option.some.inj h); exact ⟨rfl, hw⟩
    · refine ite_goF hc ?_
      replace h := jgd_of h; obtain ⟨hb, h⟩ := h; refine jgd_go (c_job hb) ?_
      replace h := obd_of h; obtain ⟨x6, hx6, h⟩ := h; refine obd_go (t_Chain_memberAt hs _ _ _ _ hw hx6).1 ?_
      replace h := jon_or h; rcases h with ⟨rfl, h⟩ | ⟨a7, rfl, h⟩
      · refine jon_goN ?_
        obtain ⟨rfl, rfl⟩ := Prod.mk.inj (Option.some.inj h); exact ⟨rfl, hw⟩
      · refine jon_goS ?_
        replace h := obd_of h; obtain ⟨x8, hx8, h⟩ := h
        refine obd_go (cg_A rfl hx8) ?_
        replace h := jon_or h; rcases h with ⟨rfl, h⟩ | ⟨a9, rfl, h⟩
        · refine jon_goN ?_
          exact t_B_remade_72 hs iS ih _ _ _ _ _ _ _ _ _ _ _ _ hw h
        · refine jon_goS ?_
          replace h := obd_of h; obtain ⟨x10, hx10, h⟩ := h
          refine obd_go (cg_A rfl hx10) ?_
          replace h := jgd_of h; obtain ⟨hb, h⟩ := h; refine jgd_go (c_job hb) ?_
          replace h := cbd2_of h; obtain ⟨x11, C12, hx11, h⟩ := h; have hq := (iS _ _ _ _ _ _ _ _ hw hx11); refine jbd2_go hq.1 ?_; replace hw := hq.2
          exact t_B_remade_72 hs iS ih _ _ _ _ _ _ _ _ _ _ _ _ hw h
set_option maxRecDepth 10000 in
set_option maxHeartbeats 4000000 in
theorem t_B_remade_b {N : Nat} {B : Nat} {SA : Nat → Nat} {h0 : Nat → Option JCell} (hs : CS B SA h0) {kS : Nat → Option Nat → Int32 → Option Nat → Int32 → CT → Option (Option Nat × CT)} {kSG : Nat → Option Nat → Int32 → Option Nat → Int32 → JMem → Option (Option Nat × JMem)} (iS : ∀ (v0 : Nat) (v1 : Option Nat) (v2 : Int32) (v3 : Option Nat) (v4 : Int32) (C : CT) (r : Option Nat) (C9 : CT), CW B C → kS v0 v1 v2 v3 v4 C = some (r, C9) → kSG v0 v1 v2 v3 v4 (ovC C h0, ck C) = some (r, (ovC C9 h0, ck C9)) ∧ CW B C9) : ∀ (v0 : Nat) (v1 : Option Nat) (v2 : Int32) (v3 : Option Nat) (v4 : Int32) (C : CT) (r : Option Nat) (C9 : CT), CW B C → c_B_remade_b N kS v0 v1 v2 v3 v4 C = some (r, C9) → g_B_remade_b N B SA kSG v0 v1 v2 v3 v4 (ovC C h0, ck C) = some (r, (ovC C9 h0, ck C9)) ∧ CW B C9 := by
  intro v0 v1 v2 v3 v4 C r C9 hw h
  unfold c_B_remade_b at h
  unfold g_B_remade_b
  replace h := ite_or h; rcases h with ⟨hc, h⟩ | ⟨hc, h⟩
  · refine ite_goT hc ?_
    replace h := cnew_of h; refine jnew_go hw (by decide) ?_; replace hw := cw_new (ci := 1) hw (by decide)
    replace h := obd_of h; obtain ⟨C3, hC3, h⟩ := h; have hq := (t_Chain_init hs _ _ _ hw hC3); refine obd_go hq.1 ?_; replace hw := hq.2
    exact t_B_remade_21 hs iS _ _ _ _ _ _ _ _ _ _ _ hw h
  · refine ite_goF hc ?_
    obtain ⟨rfl, rfl⟩ := Prod.mk.inj (Option.some.inj h); exact ⟨rfl, hw⟩
set_option maxRecDepth 10000 in
set_option maxHeartbeats 4000000 in
theorem t_B_remade {N : Nat} {B : Nat} {SA : Nat → Nat} {h0 : Nat → Option JCell} (hs : CS B SA h0) : ∀ (n : Nat), ∀ (v0 : Nat) (v1 : Option Nat) (v2 : Int32) (v3 : Option Nat) (v4 : Int32) (C : CT) (r : Option Nat) (C9 : CT), CW B C → c_B_remade N n v0 v1 v2 v3 v4 C = some (r, C9) → g_B_remade N B SA n v0 v1 v2 v3 v4 (ovC C h0, ck C) = some (r, (ovC C9 h0, ck C9)) ∧ CW B C9 := by
  intro n
  induction n with
  | zero =>
    intro v0 v1 v2 v3 v4 C r C9 hw h
    unfold c_B_remade at h
    cases h
  | succ n ih =>
    intro v0 v1 v2 v3 v4 C r C9 hw h
    unfold c_B_remade at h
    unfold g_B_remade
    exact t_B_remade_b hs ih v0 v1 v2 v3 v4 C r C9 hw h
set_option maxRecDepth 10000 in
set_option maxHeartbeats 4000000 in
theorem t_B_convert {N : Nat} {M : Nat} {B : Nat} {SA : Nat → Nat} {h0 : Nat → Option JCell} (hs : CS B SA h0) : ∀ (v0 : Nat) (v1 : Int32) (v2 : Int32) (C : CT) (r : Int32) (C9 : CT), CW B C → c_B_convert N M v0 v1 v2 C = some (r, C9) → g_B_convert N M B SA v0 v1 v2 (ovC C h0, ck C) = some (r, (ovC C9 h0, ck C9)) ∧ CW B C9 := by
  intro v0 v1 v2 C r C9 hw h
  unfold c_B_convert at h
  unfold g_B_convert
  replace h := jgd_of h; obtain ⟨hb, h⟩ := h; refine jgd_go (c_job hb) ?_
  replace h := obd_of h; obtain ⟨x1, hx1, h⟩ := h; refine obd_go (t_B_fedAlone hs _ _ _ _ hw hx1).1 ?_
  replace h := jgd_of h; obtain ⟨hb, h⟩ := h; refine jgd_go (c_job hb) ?_
  replace h := obd_of h; obtain ⟨x2, hx2, h⟩ := h; refine obd_go (t_B_numbersOf hs _ _ _ _ hw hx2).1 ?_
  replace h := jon_or h; rcases h with ⟨rfl, h⟩ | ⟨a3, rfl, h⟩
  · refine jon_goN ?_
    obtain ⟨rfl, rfl⟩ := Prod.mk.inj (Option.some.inj h); exact ⟨rfl, hw⟩
  · refine jon_goS ?_
    replace h := jon_or h; rcases h with ⟨rfl, h⟩ | ⟨a4, rfl, h⟩
    · refine jon_goN ?_
      obtain ⟨rfl, rfl⟩ := Prod.mk.inj (Option.some.inj h); exact ⟨rfl, hw⟩
    · refine jon_goS ?_
      replace h := jgd_of h; obtain ⟨hb, h⟩ := h; refine jgd_go (c_job hb) ?_
      replace h := cbd2_of h; obtain ⟨x5, C6, hx5, h⟩ := h; have hq := (t_B_canRemake hs _ _ _ _ _ _ hw hx5); refine jbd2_go hq.1 ?_; replace hw := hq.2
      replace h := ite_or h; rcases h with ⟨hc, h⟩ | ⟨hc, h⟩
      · refine ite_goT hc ?_
        replace h := jgd_of h; obtain ⟨hb, h⟩ := h; refine jgd_go (c_job hb) ?_
        replace h := cbd2_of h; obtain ⟨x7, C8, hx7, h⟩ := h; have hq := (t_B_remade hs M _ _ _ _ _ _ _ _ hw hx7); refine jbd2_go hq.1 ?_; replace hw := hq.2
        replace h := obd_of h; obtain ⟨x9, hx9, h⟩ := h; refine obd_go (t_B_numberOf hs _ _ _ hw hx9).1 ?_
        obtain ⟨rfl, rfl⟩ := Prod.mk.inj (Option.some.inj h); exact ⟨rfl, hw⟩
      · refine ite_goF hc ?_
        obtain ⟨rfl, rfl⟩ := Prod.mk.inj (Option.some.inj h); exact ⟨rfl, hw⟩
