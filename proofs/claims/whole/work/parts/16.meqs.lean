/-! the machine's functions of the reference are those of its state (printed by wip/whole/mod.py) -/
set_option maxRecDepth 10000 in
set_option maxHeartbeats 4000000 in
theorem e_R_clears_2 {N B m : Nat} {ad : Nat → Nat} (hA : MA B m ad) {h0 : Nat → Option JCell} {c : Nat × Nat} : ∀ (n : Nat), ∀ (v1 : Int32) (v2 : Int32) (T : MT), g_R_clears_2 N B n m v1 v2 (ov m ad T h0, c) = Option.map (mV m ad h0 c) (h_R_clears_2 N n v1 v2 T) := by
  intro n
  induction n with
  | zero => intros; rfl
  | succ n ih =>
    intro v1 v2 T
    simp only [jlet, g_R_clears_2, h_R_clears_2, obd_some, obd_assoc, jgd_true, ov_job, map_obd, map_tbd2, map_ite, map_jlet, map_someV, map_someF, obd_mapV, jbd2_mapF, jbd2_some, tbd2_some, ov_g_13, ov_g_14, ov_g_15, ov_s_13 hA, ov_s_14 hA, ov_s_15 hA, ih]
set_option maxRecDepth 10000 in
set_option maxHeartbeats 4000000 in
theorem e_R_clears {N B m : Nat} {ad : Nat → Nat} (hA : MA B m ad) {h0 : Nat → Option JCell} {c : Nat × Nat} : ∀ (v1 : Int32) (T : MT), g_R_clears N B m v1 (ov m ad T h0, c) = Option.map (mV m ad h0 c) (h_R_clears N v1 T) := by
  intro v1 T
  simp only [jlet, g_R_clears, h_R_clears, obd_some, obd_assoc, jgd_true, ov_job, map_obd, map_tbd2, map_ite, map_jlet, map_someV, map_someF, obd_mapV, jbd2_mapF, jbd2_some, tbd2_some, e_R_clears_2 hA]
set_option maxRecDepth 10000 in
set_option maxHeartbeats 4000000 in
theorem e_R_newSection_49 {N B m : Nat} {ad : Nat → Nat} (hA : MA B m ad) {h0 : Nat → Option JCell} {c : Nat × Nat} : ∀ (n : Nat), ∀ (v4 : Int32) (v5 : Int32) (T : MT), g_R_newSection_49 N B n m v4 v5 (ov m ad T h0, c) = Option.map (mF m ad h0 c) (h_R_newSection_49 N n v4 v5 T) := by
  intro n
  induction n with
  | zero => intros; rfl
  | succ n ih =>
    intro v4 v5 T
    simp only [jlet, g_R_newSection_49, h_R_newSection_49, obd_some, obd_assoc, jgd_true, ov_job, map_obd, map_tbd2, map_ite, map_jlet, map_someV, map_someF, obd_mapV, jbd2_mapF, jbd2_some, tbd2_some, ov_g_1, ov_g_10, ov_g_11, ov_g_12, ov_g_7, ov_g_8, ov_g_9, ov_p_1 hA, ov_s_7 hA, ov_s_8 hA, ov_s_9 hA, ov_s_10 hA, ov_s_11 hA, ov_s_12 hA, e_R_clears hA, ih]
set_option maxRecDepth 10000 in
set_option maxHeartbeats 4000000 in
theorem e_R_newSection {N B m : Nat} {ad : Nat → Nat} (hA : MA B m ad) {h0 : Nat → Option JCell} {c : Nat × Nat} : ∀ (v1 : Int32) (v2 : Int32) (v3 : Int32) (T : MT), g_R_newSection N B m v1 v2 v3 (ov m ad T h0, c) = Option.map (mF m ad h0 c) (h_R_newSection N v1 v2 v3 T) := by
  intro v1 v2 v3 T
  simp only [jlet, g_R_newSection, h_R_newSection, obd_some, obd_assoc, jgd_true, ov_job, map_obd, map_tbd2, map_ite, map_jlet, map_someV, map_someF, obd_mapV, jbd2_mapF, jbd2_some, tbd2_some, ov_g_1, ov_g_2, ov_g_3, ov_g_4, ov_g_5, ov_g_6, ov_s_2 hA, ov_s_3 hA, ov_s_4 hA, ov_s_5 hA, ov_s_6 hA, e_R_newSection_49 hA]
set_option maxRecDepth 10000 in
set_option maxHeartbeats 4000000 in
theorem e_R_section {N B m : Nat} {ad : Nat → Nat} (hA : MA B m ad) {h0 : Nat → Option JCell} {c : Nat × Nat} : ∀ (v1 : Int32) (v2 : Int32) (v3 : Int32) (T : MT), g_R_section N B m v1 v2 v3 (ov m ad T h0, c) = Option.map (mF m ad h0 c) (h_R_section N v1 v2 v3 T) := by
  intro v1 v2 v3 T
  simp only [jlet, g_R_section, h_R_section, obd_some, obd_assoc, jgd_true, ov_job, map_obd, map_tbd2, map_ite, map_jlet, map_someV, map_someF, obd_mapV, jbd2_mapF, jbd2_some, tbd2_some, ov_g_1, e_R_newSection hA]
set_option maxRecDepth 10000 in
set_option maxHeartbeats 4000000 in
theorem e_R_isSection {B m : Nat} {ad : Nat → Nat} (hA : MA B m ad) {h0 : Nat → Option JCell} : ∀ (v1 : Int32) (T : MT), g_R_isSection m v1 (ov m ad T h0) = h_R_isSection v1 T := by
  intro v1 T
  simp only [jlet, g_R_isSection, h_R_isSection, obd_some, obd_assoc, jgd_true, ov_job, map_obd, map_tbd2, map_ite, map_jlet, map_someV, map_someF, obd_mapV, jbd2_mapF, jbd2_some, tbd2_some, ov_g_1]
set_option maxRecDepth 10000 in
set_option maxHeartbeats 4000000 in
theorem e_R_isCoefficient {B m : Nat} {ad : Nat → Nat} (hA : MA B m ad) {h0 : Nat → Option JCell} : ∀ (v1 : Int32) (v2 : Int32) (T : MT), g_R_isCoefficient m v1 v2 (ov m ad T h0) = h_R_isCoefficient v1 v2 T := by
  intro v1 v2 T
  simp only [jlet, g_R_isCoefficient, h_R_isCoefficient, obd_some, obd_assoc, jgd_true, ov_job, map_obd, map_tbd2, map_ite, map_jlet, map_someV, map_someF, obd_mapV, jbd2_mapF, jbd2_some, tbd2_some, ov_g_2, ov_a_2 hA, e_R_isSection hA]
set_option maxRecDepth 10000 in
set_option maxHeartbeats 4000000 in
theorem e_R_coefficient {B m : Nat} {ad : Nat → Nat} (hA : MA B m ad) {h0 : Nat → Option JCell} {c : Nat × Nat} : ∀ (v1 : Int32) (v2 : Int32) (v3 : Int64) (T : MT), g_R_coefficient B m v1 v2 v3 (ov m ad T h0, c) = Option.map (mF m ad h0 c) (h_R_coefficient v1 v2 v3 T) := by
  intro v1 v2 v3 T
  simp only [jlet, g_R_coefficient, h_R_coefficient, obd_some, obd_assoc, jgd_true, ov_job, map_obd, map_tbd2, map_ite, map_jlet, map_someV, map_someF, obd_mapV, jbd2_mapF, jbd2_some, tbd2_some, ov_g_3, ov_g_7, ov_a_3 hA, ov_s_3 hA, ov_a_7 hA, ov_s_7 hA, e_R_isCoefficient hA]
set_option maxRecDepth 10000 in
set_option maxHeartbeats 4000000 in
theorem e_R_ratio_167 {B m : Nat} {ad : Nat → Nat} (hA : MA B m ad) {h0 : Nat → Option JCell} {c : Nat × Nat} : ∀ (v1 : Int32) (v2 : Int32) (v5 : UInt64) (T : MT), g_R_ratio_167 B m v1 v2 v5 (ov m ad T h0, c) = Option.map (mF m ad h0 c) (h_R_ratio_167 v1 v2 v5 T) := by
  intro v1 v2 v5 T
  simp only [jlet, g_R_ratio_167, h_R_ratio_167, obd_some, obd_assoc, jgd_true, ov_job, map_obd, map_tbd2, map_ite, map_jlet, map_someV, map_someF, obd_mapV, jbd2_mapF, jbd2_some, tbd2_some, ov_g_7, ov_s_7 hA]
set_option maxRecDepth 10000 in
set_option maxHeartbeats 4000000 in
theorem e_R_ratio_151 {B m : Nat} {ad : Nat → Nat} (hA : MA B m ad) {h0 : Nat → Option JCell} {c : Nat × Nat} : ∀ (v1 : Int32) (v2 : Int32) (v11 : Int64) (T : MT), g_R_ratio_151 B m v1 v2 v11 (ov m ad T h0, c) = Option.map (mF m ad h0 c) (h_R_ratio_151 v1 v2 v11 T) := by
  intro v1 v2 v11 T
  simp only [jlet, g_R_ratio_151, h_R_ratio_151, obd_some, obd_assoc, jgd_true, ov_job, map_obd, map_tbd2, map_ite, map_jlet, map_someV, map_someF, obd_mapV, jbd2_mapF, jbd2_some, tbd2_some, e_R_ratio_167 hA]
set_option maxRecDepth 10000 in
set_option maxHeartbeats 4000000 in
theorem e_R_ratio_145 {B m : Nat} {ad : Nat → Nat} (hA : MA B m ad) {h0 : Nat → Option JCell} {c : Nat × Nat} : ∀ (v1 : Int32) (v2 : Int32) (v11 : Int64) (T : MT), g_R_ratio_145 B m v1 v2 v11 (ov m ad T h0, c) = Option.map (mF m ad h0 c) (h_R_ratio_145 v1 v2 v11 T) := by
  intro v1 v2 v11 T
  simp only [jlet, g_R_ratio_145, h_R_ratio_145, obd_some, obd_assoc, jgd_true, ov_job, map_obd, map_tbd2, map_ite, map_jlet, map_someV, map_someF, obd_mapV, jbd2_mapF, jbd2_some, tbd2_some, e_R_ratio_151 hA]
set_option maxRecDepth 10000 in
set_option maxHeartbeats 4000000 in
theorem e_R_ratio_97 {B m : Nat} {ad : Nat → Nat} (hA : MA B m ad) {h0 : Nat → Option JCell} {c : Nat × Nat} : ∀ (v1 : Int32) (v2 : Int32) (v7 : Int64) (v9 : Int64) (T : MT), g_R_ratio_97 B m v1 v2 v7 v9 (ov m ad T h0, c) = Option.map (mF m ad h0 c) (h_R_ratio_97 v1 v2 v7 v9 T) := by
  intro v1 v2 v7 v9 T
  simp only [jlet, g_R_ratio_97, h_R_ratio_97, obd_some, obd_assoc, jgd_true, ov_job, map_obd, map_tbd2, map_ite, map_jlet, map_someV, map_someF, obd_mapV, jbd2_mapF, jbd2_some, tbd2_some, e_R_ratio_145 hA, e_R_ratio_151 hA]
set_option maxRecDepth 10000 in
set_option maxHeartbeats 4000000 in
theorem e_R_ratio_73 {B m : Nat} {ad : Nat → Nat} (hA : MA B m ad) {h0 : Nat → Option JCell} {c : Nat × Nat} : ∀ (v1 : Int32) (v2 : Int32) (v4 : Int32) (s0 : Int64) (T : MT), g_R_ratio_73 B m v1 v2 v4 s0 (ov m ad T h0, c) = Option.map (mF m ad h0 c) (h_R_ratio_73 v1 v2 v4 s0 T) := by
  intro v1 v2 v4 s0 T
  simp only [jlet, g_R_ratio_73, h_R_ratio_73, obd_some, obd_assoc, jgd_true, ov_job, map_obd, map_tbd2, map_ite, map_jlet, map_someV, map_someF, obd_mapV, jbd2_mapF, jbd2_some, tbd2_some, e_R_ratio_97 hA]
set_option maxRecDepth 10000 in
set_option maxHeartbeats 4000000 in
theorem e_R_ratio_40 {B m : Nat} {ad : Nat → Nat} (hA : MA B m ad) {h0 : Nat → Option JCell} {c : Nat × Nat} : ∀ (v1 : Int32) (v2 : Int32) (v3 : Int32) (v4 : Int32) (v5 : UInt64) (T : MT), g_R_ratio_40 B m v1 v2 v3 v4 v5 (ov m ad T h0, c) = Option.map (mF m ad h0 c) (h_R_ratio_40 v1 v2 v3 v4 v5 T) := by
  intro v1 v2 v3 v4 v5 T
  simp only [jlet, g_R_ratio_40, h_R_ratio_40, obd_some, obd_assoc, jgd_true, ov_job, map_obd, map_tbd2, map_ite, map_jlet, map_someV, map_someF, obd_mapV, jbd2_mapF, jbd2_some, tbd2_some, ov_g_2, ov_g_3, ov_a_2 hA, ov_a_3 hA, e_R_ratio_73 hA, e_R_ratio_167 hA]
set_option maxRecDepth 10000 in
set_option maxHeartbeats 4000000 in
theorem e_R_ratio {B m : Nat} {ad : Nat → Nat} (hA : MA B m ad) {h0 : Nat → Option JCell} {c : Nat × Nat} : ∀ (v1 : Int32) (v2 : Int32) (v3 : Int32) (v4 : Int32) (T : MT), g_R_ratio B m v1 v2 v3 v4 (ov m ad T h0, c) = Option.map (mF m ad h0 c) (h_R_ratio v1 v2 v3 v4 T) := by
  intro v1 v2 v3 v4 T
  simp only [jlet, g_R_ratio, h_R_ratio, obd_some, obd_assoc, jgd_true, ov_job, map_obd, map_tbd2, map_ite, map_jlet, map_someV, map_someF, obd_mapV, jbd2_mapF, jbd2_some, tbd2_some, ov_g_3, ov_a_3 hA, e_R_isCoefficient hA, e_R_ratio_40 hA]
set_option maxRecDepth 10000 in
set_option maxHeartbeats 4000000 in
theorem e_R_rule {B m : Nat} {ad : Nat → Nat} (hA : MA B m ad) {h0 : Nat → Option JCell} {c : Nat × Nat} : ∀ (v1 : Int32) (v2 : Int32) (v3 : Int32) (T : MT), g_R_rule B m v1 v2 v3 (ov m ad T h0, c) = Option.map (mF m ad h0 c) (h_R_rule v1 v2 v3 T) := by
  intro v1 v2 v3 T
  simp only [jlet, g_R_rule, h_R_rule, obd_some, obd_assoc, jgd_true, ov_job, map_obd, map_tbd2, map_ite, map_jlet, map_someV, map_someF, obd_mapV, jbd2_mapF, jbd2_some, tbd2_some, ov_g_3, ov_g_5, ov_g_6, ov_a_3 hA, ov_s_3 hA, ov_a_5 hA, ov_s_5 hA, ov_a_6 hA, ov_s_6 hA, e_R_isSection hA]
set_option maxRecDepth 10000 in
set_option maxHeartbeats 4000000 in
theorem e_R_newChain {B m : Nat} {ad : Nat → Nat} (hA : MA B m ad) {h0 : Nat → Option JCell} {c : Nat × Nat} : ∀ (T : MT), g_R_newChain B m (ov m ad T h0, c) = Option.map (mF m ad h0 c) (h_R_newChain  T) := by
  intro T
  simp only [jlet, g_R_newChain, h_R_newChain, obd_some, obd_assoc, jgd_true, ov_job, map_obd, map_tbd2, map_ite, map_jlet, map_someV, map_someF, obd_mapV, jbd2_mapF, jbd2_some, tbd2_some, ov_g_16, ov_g_17, ov_g_19, ov_g_20, ov_g_28, ov_p_16 hA, ov_s_17 hA, ov_s_19 hA, ov_s_20 hA, ov_s_28 hA]
set_option maxRecDepth 10000 in
set_option maxHeartbeats 4000000 in
theorem e_R_chain {B m : Nat} {ad : Nat → Nat} (hA : MA B m ad) {h0 : Nat → Option JCell} {c : Nat × Nat} : ∀ (T : MT), g_R_chain B m (ov m ad T h0, c) = Option.map (mF m ad h0 c) (h_R_chain  T) := by
  intro T
  simp only [jlet, g_R_chain, h_R_chain, obd_some, obd_assoc, jgd_true, ov_job, map_obd, map_tbd2, map_ite, map_jlet, map_someV, map_someF, obd_mapV, jbd2_mapF, jbd2_some, tbd2_some, ov_g_16, e_R_newChain hA]
set_option maxRecDepth 10000 in
set_option maxHeartbeats 4000000 in
theorem e_R_countOf_45 {N B m : Nat} {ad : Nat → Nat} (hA : MA B m ad) {h0 : Nat → Option JCell} {k6G : Nat → Int32 → Int32 → Int32 → Int32 → Int32 → (Nat → Option JCell) → Option Int32} {k6H : Int32 → Int32 → Int32 → Int32 → Int32 → MT → Option Int32} (i6 : ∀ (v1 : Int32) (v2 : Int32) (v3 : Int32) (v4 : Int32) (v5 : Int32) (T : MT), k6G m v1 v2 v3 v4 v5 (ov m ad T h0) = k6H v1 v2 v3 v4 v5 T) : ∀ (v1 : Int32) (v2 : Int32) (v3 : Int32) (v4 : Int32) (v5 : Int32) (T : MT), g_R_countOf_45 N k6G m v1 v2 v3 v4 v5 (ov m ad T h0) = h_R_countOf_45 N k6H v1 v2 v3 v4 v5 T := by
  intro v1 v2 v3 v4 v5 T
  simp only [jlet, g_R_countOf_45, h_R_countOf_45, obd_some, obd_assoc, jgd_true, ov_job, map_obd, map_tbd2, map_ite, map_jlet, map_someV, map_someF, obd_mapV, jbd2_mapF, jbd2_some, tbd2_some, i6]
set_option maxRecDepth 10000 in
set_option maxHeartbeats 4000000 in
theorem e_R_countOf_6 {N B m : Nat} {ad : Nat → Nat} (hA : MA B m ad) {h0 : Nat → Option JCell} : ∀ (n : Nat), ∀ (v1 : Int32) (v2 : Int32) (v3 : Int32) (v4 : Int32) (v5 : Int32) (T : MT), g_R_countOf_6 N n m v1 v2 v3 v4 v5 (ov m ad T h0) = h_R_countOf_6 N n v1 v2 v3 v4 v5 T := by
  intro n
  induction n with
  | zero => intros; rfl
  | succ n ih =>
    intro v1 v2 v3 v4 v5 T
    simp only [jlet, g_R_countOf_6, h_R_countOf_6, obd_some, obd_assoc, jgd_true, ov_job, map_obd, map_tbd2, map_ite, map_jlet, map_someV, map_someF, obd_mapV, jbd2_mapF, jbd2_some, tbd2_some, ov_g_17, ov_g_18, ov_g_2, ov_a_2 hA, ov_a_17 hA, ov_a_18 hA, e_R_countOf_45 hA (k6G := g_R_countOf_6 N n) (k6H := h_R_countOf_6 N n) ih]
set_option maxRecDepth 10000 in
set_option maxHeartbeats 4000000 in
theorem e_R_countOf {N B m : Nat} {ad : Nat → Nat} (hA : MA B m ad) {h0 : Nat → Option JCell} : ∀ (v1 : Int32) (v2 : Int32) (v3 : Int32) (T : MT), g_R_countOf N m v1 v2 v3 (ov m ad T h0) = h_R_countOf N v1 v2 v3 T := by
  intro v1 v2 v3 T
  simp only [jlet, g_R_countOf, h_R_countOf, obd_some, obd_assoc, jgd_true, ov_job, map_obd, map_tbd2, map_ite, map_jlet, map_someV, map_someF, obd_mapV, jbd2_mapF, jbd2_some, tbd2_some, e_R_countOf_6 hA]
set_option maxRecDepth 10000 in
set_option maxHeartbeats 4000000 in
theorem e_R_isChain {B m : Nat} {ad : Nat → Nat} (hA : MA B m ad) {h0 : Nat → Option JCell} : ∀ (v1 : Int32) (T : MT), g_R_isChain m v1 (ov m ad T h0) = h_R_isChain v1 T := by
  intro v1 T
  simp only [jlet, g_R_isChain, h_R_isChain, obd_some, obd_assoc, jgd_true, ov_job, map_obd, map_tbd2, map_ite, map_jlet, map_someV, map_someF, obd_mapV, jbd2_mapF, jbd2_some, tbd2_some, ov_g_16]
set_option maxRecDepth 10000 in
set_option maxHeartbeats 4000000 in
theorem e_R_join {B m : Nat} {ad : Nat → Nat} (hA : MA B m ad) {h0 : Nat → Option JCell} {c : Nat × Nat} : ∀ (v1 : Int32) (v2 : Int32) (T : MT), g_R_join B m v1 v2 (ov m ad T h0, c) = Option.map (mF m ad h0 c) (h_R_join v1 v2 T) := by
  intro v1 v2 T
  simp only [jlet, g_R_join, h_R_join, obd_some, obd_assoc, jgd_true, ov_job, map_obd, map_tbd2, map_ite, map_jlet, map_someV, map_someF, obd_mapV, jbd2_mapF, jbd2_some, tbd2_some, ov_g_17, ov_g_18, ov_g_8, ov_g_9, ov_a_8 hA, ov_s_8 hA, ov_a_9 hA, ov_s_9 hA, ov_a_17 hA, ov_s_17 hA, ov_a_18 hA, ov_s_18 hA]
set_option maxRecDepth 10000 in
set_option maxHeartbeats 4000000 in
theorem e_R_sortOf {B m : Nat} {ad : Nat → Nat} (hA : MA B m ad) {h0 : Nat → Option JCell} : ∀ (v1 : Int32) (T : MT), g_R_sortOf m v1 (ov m ad T h0) = h_R_sortOf v1 T := by
  intro v1 T
  simp only [jlet, g_R_sortOf, h_R_sortOf, obd_some, obd_assoc, jgd_true, ov_job, map_obd, map_tbd2, map_ite, map_jlet, map_someV, map_someF, obd_mapV, jbd2_mapF, jbd2_some, tbd2_some, ov_g_17, ov_g_18, ov_g_3, ov_a_3 hA, ov_a_17 hA, ov_a_18 hA]
set_option maxRecDepth 10000 in
set_option maxHeartbeats 4000000 in
theorem e_R_add_105 {N B m : Nat} {ad : Nat → Nat} (hA : MA B m ad) {h0 : Nat → Option JCell} {c : Nat × Nat} : ∀ (v1 : Int32) (v2 : Int32) (T : MT), g_R_add_105 N B m v1 v2 (ov m ad T h0, c) = Option.map (mF m ad h0 c) (h_R_add_105 N v1 v2 T) := by
  intro v1 v2 T
  simp only [jlet, g_R_add_105, h_R_add_105, obd_some, obd_assoc, jgd_true, ov_job, map_obd, map_tbd2, map_ite, map_jlet, map_someV, map_someF, obd_mapV, jbd2_mapF, jbd2_some, tbd2_some, e_R_join hA]
set_option maxRecDepth 10000 in
set_option maxHeartbeats 4000000 in
theorem e_R_add_74 {N B m : Nat} {ad : Nat → Nat} (hA : MA B m ad) {h0 : Nat → Option JCell} {c : Nat × Nat} : ∀ (v1 : Int32) (v2 : Int32) (T : MT), g_R_add_74 N B m v1 v2 (ov m ad T h0, c) = Option.map (mF m ad h0 c) (h_R_add_74 N v1 v2 T) := by
  intro v1 v2 T
  simp only [jlet, g_R_add_74, h_R_add_74, obd_some, obd_assoc, jgd_true, ov_job, map_obd, map_tbd2, map_ite, map_jlet, map_someV, map_someF, obd_mapV, jbd2_mapF, jbd2_some, tbd2_some, ov_g_2, ov_a_2 hA, e_R_countOf hA, e_R_add_105 hA]
set_option maxRecDepth 10000 in
set_option maxHeartbeats 4000000 in
theorem e_R_add {N B m : Nat} {ad : Nat → Nat} (hA : MA B m ad) {h0 : Nat → Option JCell} {c : Nat × Nat} : ∀ (v1 : Int32) (v2 : Int32) (T : MT), g_R_add N B m v1 v2 (ov m ad T h0, c) = Option.map (mF m ad h0 c) (h_R_add N v1 v2 T) := by
  intro v1 v2 T
  simp only [jlet, g_R_add, h_R_add, obd_some, obd_assoc, jgd_true, ov_job, map_obd, map_tbd2, map_ite, map_jlet, map_someV, map_someF, obd_mapV, jbd2_mapF, jbd2_some, tbd2_some, ov_g_17, ov_g_19, ov_g_3, ov_g_8, ov_a_3 hA, ov_a_8 hA, ov_a_17 hA, ov_a_19 hA, e_R_isChain hA, e_R_isSection hA, e_R_sortOf hA, e_R_add_74 hA]
set_option maxRecDepth 10000 in
set_option maxHeartbeats 4000000 in
theorem e_R_newLoop_49 {N B m : Nat} {ad : Nat → Nat} (hA : MA B m ad) {h0 : Nat → Option JCell} {c : Nat × Nat} : ∀ (n : Nat), ∀ (v1 : Int32) (v7 : Int32) (v8 : Int32) (T : MT), g_R_newLoop_49 N B n m v1 v7 v8 (ov m ad T h0, c) = Option.map (mF m ad h0 c) (h_R_newLoop_49 N n v1 v7 v8 T) := by
  intro n
  induction n with
  | zero => intros; rfl
  | succ n ih =>
    intro v1 v7 v8 T
    simp only [jlet, g_R_newLoop_49, h_R_newLoop_49, obd_some, obd_assoc, jgd_true, ov_job, map_obd, map_tbd2, map_ite, map_jlet, map_someV, map_someF, obd_mapV, jbd2_mapF, jbd2_some, tbd2_some, ov_g_20, ov_g_25, ov_g_26, ov_a_20 hA, ov_s_20 hA, ov_a_25 hA, ov_s_25 hA, ov_a_26 hA, ov_s_26 hA, ih]
set_option maxRecDepth 10000 in
set_option maxHeartbeats 4000000 in
theorem e_R_newLoop {N B m : Nat} {ad : Nat → Nat} (hA : MA B m ad) {h0 : Nat → Option JCell} {c : Nat × Nat} : ∀ (v1 : Int32) (v2 : Int32) (v3 : Int32) (v4 : Int32) (v5 : UInt64) (T : MT), g_R_newLoop N B m v1 v2 v3 v4 v5 (ov m ad T h0, c) = Option.map (mF m ad h0 c) (h_R_newLoop N v1 v2 v3 v4 v5 T) := by
  intro v1 v2 v3 v4 v5 T
  simp only [jlet, g_R_newLoop, h_R_newLoop, obd_some, obd_assoc, jgd_true, ov_job, map_obd, map_tbd2, map_ite, map_jlet, map_someV, map_someF, obd_mapV, jbd2_mapF, jbd2_some, tbd2_some, ov_g_20, ov_g_21, ov_g_22, ov_g_23, ov_g_24, ov_a_20 hA, ov_s_20 hA, ov_a_21 hA, ov_s_21 hA, ov_a_22 hA, ov_s_22 hA, ov_a_23 hA, ov_s_23 hA, ov_a_24 hA, ov_s_24 hA, e_R_newLoop_49 hA]
set_option maxRecDepth 10000 in
set_option maxHeartbeats 4000000 in
theorem e_R_loop_63 {N B m : Nat} {ad : Nat → Nat} (hA : MA B m ad) {h0 : Nat → Option JCell} {c : Nat × Nat} : ∀ (n : Nat), ∀ (v1 : Int32) (v2 : Int32) (v3 : Int32) (v4 : Int32) (v5 : Int64) (v7 : Int32) (T : MT), g_R_loop_63 N B n m v1 v2 v3 v4 v5 v7 (ov m ad T h0, c) = Option.map (mF m ad h0 c) (h_R_loop_63 N n v1 v2 v3 v4 v5 v7 T) := by
  intro n
  induction n with
  | zero => intros; rfl
  | succ n ih =>
    intro v1 v2 v3 v4 v5 v7 T
    simp only [jlet, g_R_loop_63, h_R_loop_63, obd_some, obd_assoc, jgd_true, ov_job, map_obd, map_tbd2, map_ite, map_jlet, map_someV, map_someF, obd_mapV, jbd2_mapF, jbd2_some, tbd2_some, ov_g_18, ov_g_2, ov_a_2 hA, ov_a_18 hA, e_R_newLoop hA, e_R_sortOf hA, ih]
set_option maxRecDepth 10000 in
set_option maxHeartbeats 4000000 in
theorem e_R_loop {N B m : Nat} {ad : Nat → Nat} (hA : MA B m ad) {h0 : Nat → Option JCell} {c : Nat × Nat} : ∀ (v1 : Int32) (v2 : Int32) (v3 : Int32) (v4 : Int32) (v5 : Int64) (T : MT), g_R_loop N B m v1 v2 v3 v4 v5 (ov m ad T h0, c) = Option.map (mF m ad h0 c) (h_R_loop N v1 v2 v3 v4 v5 T) := by
  intro v1 v2 v3 v4 v5 T
  simp only [jlet, g_R_loop, h_R_loop, obd_some, obd_assoc, jgd_true, ov_job, map_obd, map_tbd2, map_ite, map_jlet, map_someV, map_someF, obd_mapV, jbd2_mapF, jbd2_some, tbd2_some, ov_g_17, ov_g_19, ov_g_20, ov_a_17 hA, ov_a_19 hA, ov_a_20 hA, e_R_isChain hA, e_R_loop_63 hA]
set_option maxRecDepth 10000 in
set_option maxHeartbeats 4000000 in
theorem e_R_within {N B m : Nat} {ad : Nat → Nat} (hA : MA B m ad) {h0 : Nat → Option JCell} {c : Nat × Nat} : ∀ (v1 : Int32) (v2 : Int32) (T : MT), g_R_within N B m v1 v2 (ov m ad T h0, c) = Option.map (mF m ad h0 c) (h_R_within N v1 v2 T) := by
  intro v1 v2 T
  simp only [jlet, g_R_within, h_R_within, obd_some, obd_assoc, jgd_true, ov_job, map_obd, map_tbd2, map_ite, map_jlet, map_someV, map_someF, obd_mapV, jbd2_mapF, jbd2_some, tbd2_some, ov_g_10, ov_g_17, ov_g_19, ov_g_2, ov_g_3, ov_g_8, ov_a_2 hA, ov_s_2 hA, ov_a_3 hA, ov_s_3 hA, ov_a_8 hA, ov_s_8 hA, ov_a_10 hA, ov_s_10 hA, ov_a_17 hA, ov_s_17 hA, ov_a_19 hA, ov_s_19 hA, e_R_countOf hA, e_R_isChain hA, e_R_isSection hA, e_R_sortOf hA]
set_option maxRecDepth 10000 in
set_option maxHeartbeats 4000000 in
theorem e_R_begins {B m : Nat} {ad : Nat → Nat} (hA : MA B m ad) {h0 : Nat → Option JCell} {c : Nat × Nat} : ∀ (v1 : Int32) (T : MT), g_R_begins B m v1 (ov m ad T h0, c) = Option.map (mV m ad h0 c) (h_R_begins v1 T) := by
  intro v1 T
  simp only [jlet, g_R_begins, h_R_begins, obd_some, obd_assoc, jgd_true, ov_job, map_obd, map_tbd2, map_ite, map_jlet, map_someV, map_someF, obd_mapV, jbd2_mapF, jbd2_some, tbd2_some, ov_p_29 hA, ov_p_30 hA, ov_p_31 hA, ov_p_32 hA]
set_option maxRecDepth 10000 in
set_option maxHeartbeats 4000000 in
theorem e_R_comes_105 {B m : Nat} {ad : Nat → Nat} (hA : MA B m ad) {h0 : Nat → Option JCell} {c : Nat × Nat} : ∀ (v1 : Int32) (v2 : Int64) (T : MT), g_R_comes_105 B m v1 v2 (ov m ad T h0, c) = Option.map (mF m ad h0 c) (h_R_comes_105 v1 v2 T) := by
  intro v1 v2 T
  simp only [jlet, g_R_comes_105, h_R_comes_105, obd_some, obd_assoc, jgd_true, ov_job, map_obd, map_tbd2, map_ite, map_jlet, map_someV, map_someF, obd_mapV, jbd2_mapF, jbd2_some, tbd2_some, ov_g_11, ov_g_6, ov_a_6 hA, ov_s_6 hA, ov_a_11 hA, ov_s_11 hA]
set_option maxRecDepth 10000 in
set_option maxHeartbeats 4000000 in
theorem e_R_comes {B m : Nat} {ad : Nat → Nat} (hA : MA B m ad) {h0 : Nat → Option JCell} {c : Nat × Nat} : ∀ (T : MT), g_R_comes B m (ov m ad T h0, c) = Option.map (mF m ad h0 c) (h_R_comes  T) := by
  intro T
  simp only [jlet, g_R_comes, h_R_comes, obd_some, obd_assoc, jgd_true, ov_job, map_obd, map_tbd2, map_ite, map_jlet, map_someV, map_someF, obd_mapV, jbd2_mapF, jbd2_some, tbd2_some, ov_g_15, ov_g_29, ov_g_3, ov_g_31, ov_g_32, ov_g_5, ov_a_3 hA, ov_s_3 hA, ov_a_5 hA, ov_s_5 hA, ov_a_15 hA, ov_s_15 hA, e_R_comes_105 hA]
set_option maxRecDepth 10000 in
set_option maxHeartbeats 4000000 in
theorem e_R_c {B m : Nat} {ad : Nat → Nat} (hA : MA B m ad) {h0 : Nat → Option JCell} : ∀ (v1 : Int32) (v2 : Int32) (T : MT), g_R_c m v1 v2 (ov m ad T h0) = h_R_c v1 v2 T := by
  intro v1 v2 T
  simp only [jlet, g_R_c, h_R_c, obd_some, obd_assoc, jgd_true, ov_job, map_obd, map_tbd2, map_ite, map_jlet, map_someV, map_someF, obd_mapV, jbd2_mapF, jbd2_some, tbd2_some, ov_g_7, ov_a_7 hA]
set_option maxRecDepth 10000 in
set_option maxHeartbeats 4000000 in
theorem e_R_leaves_84 {N B m : Nat} {ad : Nat → Nat} (hA : MA B m ad) {h0 : Nat → Option JCell} {c : Nat × Nat} {k7G : Nat → Int32 → JMem → Option JMem} {k7H : Int32 → MT → Option MT} (i7 : ∀ (v1 : Int32) (T : MT), k7G m v1 (ov m ad T h0, c) = Option.map (mV m ad h0 c) (k7H v1 T)) : ∀ (v1 : Int32) (T : MT), g_R_leaves_84 N B k7G m v1 (ov m ad T h0, c) = Option.map (mV m ad h0 c) (h_R_leaves_84 N k7H v1 T) := by
  intro v1 T
  simp only [jlet, g_R_leaves_84, h_R_leaves_84, obd_some, obd_assoc, jgd_true, ov_job, map_obd, map_tbd2, map_ite, map_jlet, map_someV, map_someF, obd_mapV, jbd2_mapF, jbd2_some, tbd2_some, i7]
set_option maxRecDepth 10000 in
set_option maxHeartbeats 4000000 in
theorem e_R_leaves_7 {N B m : Nat} {ad : Nat → Nat} (hA : MA B m ad) {h0 : Nat → Option JCell} {c : Nat × Nat} : ∀ (n : Nat), ∀ (v1 : Int32) (T : MT), g_R_leaves_7 N B n m v1 (ov m ad T h0, c) = Option.map (mV m ad h0 c) (h_R_leaves_7 N n v1 T) := by
  intro n
  induction n with
  | zero => intros; rfl
  | succ n ih =>
    intro v1 T
    simp only [jlet, g_R_leaves_7, h_R_leaves_7, obd_some, obd_assoc, jgd_true, ov_job, map_obd, map_tbd2, map_ite, map_jlet, map_someV, map_someF, obd_mapV, jbd2_mapF, jbd2_some, tbd2_some, ov_g_20, ov_g_21, ov_g_23, ov_g_25, ov_g_26, ov_g_39, ov_g_40, ov_g_41, ov_p_40 hA, ov_a_20 hA, ov_s_20 hA, ov_a_21 hA, ov_s_21 hA, ov_a_23 hA, ov_s_23 hA, ov_a_25 hA, ov_s_25 hA, ov_a_26 hA, ov_s_26 hA, e_R_leaves_84 hA (k7G := g_R_leaves_7 N B n) (k7H := h_R_leaves_7 N n) ih]
set_option maxRecDepth 10000 in
set_option maxHeartbeats 4000000 in
theorem e_R_leaves {N B m : Nat} {ad : Nat → Nat} (hA : MA B m ad) {h0 : Nat → Option JCell} {c : Nat × Nat} : ∀ (T : MT), g_R_leaves N B m (ov m ad T h0, c) = Option.map (mV m ad h0 c) (h_R_leaves N  T) := by
  intro T
  simp only [jlet, g_R_leaves, h_R_leaves, obd_some, obd_assoc, jgd_true, ov_job, map_obd, map_tbd2, map_ite, map_jlet, map_someV, map_someF, obd_mapV, jbd2_mapF, jbd2_some, tbd2_some, ov_g_39, e_R_leaves_7 hA]
set_option maxRecDepth 10000 in
set_option maxHeartbeats 4000000 in
theorem e_R_joins_156 {B m : Nat} {ad : Nat → Nat} (hA : MA B m ad) {h0 : Nat → Option JCell} {c : Nat × Nat} : ∀ (T : MT), g_R_joins_156 B m (ov m ad T h0, c) = Option.map (mV m ad h0 c) (h_R_joins_156  T) := by
  intro T
  simp only [jlet, g_R_joins_156, h_R_joins_156, obd_some, obd_assoc, jgd_true, ov_job, map_obd, map_tbd2, map_ite, map_jlet, map_someV, map_someF, obd_mapV, jbd2_mapF, jbd2_some, tbd2_some, ov_g_30, ov_p_30 hA]
set_option maxRecDepth 10000 in
set_option maxHeartbeats 4000000 in
theorem e_R_joins_33 {B m : Nat} {ad : Nat → Nat} (hA : MA B m ad) {h0 : Nat → Option JCell} {c : Nat × Nat} : ∀ (T : MT), g_R_joins_33 B m (ov m ad T h0, c) = Option.map (mV m ad h0 c) (h_R_joins_33  T) := by
  intro T
  simp only [jlet, g_R_joins_33, h_R_joins_33, obd_some, obd_assoc, jgd_true, ov_job, map_obd, map_tbd2, map_ite, map_jlet, map_someV, map_someF, obd_mapV, jbd2_mapF, jbd2_some, tbd2_some, ov_p_31 hA, e_R_joins_156 hA]
set_option maxRecDepth 10000 in
set_option maxHeartbeats 4000000 in
theorem e_R_joins_127 {B m : Nat} {ad : Nat → Nat} (hA : MA B m ad) {h0 : Nat → Option JCell} {c : Nat × Nat} : ∀ (s0 : UInt64) (T : MT), g_R_joins_127 B m s0 m (ov m ad T h0, c) = Option.map (mV m ad h0 c) (h_R_joins_127 s0 T) := by
  intro s0 T
  simp only [jlet, g_R_joins_127, h_R_joins_127, obd_some, obd_assoc, jgd_true, ov_job, map_obd, map_tbd2, map_ite, map_jlet, map_someV, map_someF, obd_mapV, jbd2_mapF, jbd2_some, tbd2_some, ov_p_31 hA, e_R_joins_156 hA]
set_option maxRecDepth 10000 in
set_option maxHeartbeats 4000000 in
theorem e_R_joins_153 {B m : Nat} {ad : Nat → Nat} (hA : MA B m ad) {h0 : Nat → Option JCell} {c : Nat × Nat} : ∀ (s0 : UInt64) (T : MT), g_R_joins_153 B m s0 m (ov m ad T h0, c) = Option.map (mV m ad h0 c) (h_R_joins_153 s0 T) := by
  intro s0 T
  simp only [jlet, g_R_joins_153, h_R_joins_153, obd_some, obd_assoc, jgd_true, ov_job, map_obd, map_tbd2, map_ite, map_jlet, map_someV, map_someF, obd_mapV, jbd2_mapF, jbd2_some, tbd2_some, ov_p_31 hA, e_R_joins_156 hA]
set_option maxRecDepth 10000 in
set_option maxHeartbeats 4000000 in
theorem e_R_joins_88 {B m : Nat} {ad : Nat → Nat} (hA : MA B m ad) {h0 : Nat → Option JCell} {c : Nat × Nat} : ∀ (v1 : UInt64) (v3 : Bool) (T : MT), g_R_joins_88 B m v1 v3 (ov m ad T h0, c) = Option.map (mV m ad h0 c) (h_R_joins_88 v1 v3 T) := by
  intro v1 v3 T
  simp only [jlet, g_R_joins_88, h_R_joins_88, obd_some, obd_assoc, jgd_true, ov_job, map_obd, map_tbd2, map_ite, map_jlet, map_someV, map_someF, obd_mapV, jbd2_mapF, jbd2_some, tbd2_some, ov_g_29, ov_g_3, ov_g_31, ov_a_3 hA, e_R_joins_127 hA, e_R_joins_153 hA]
set_option maxRecDepth 10000 in
set_option maxHeartbeats 4000000 in
theorem e_R_joins_74 {B m : Nat} {ad : Nat → Nat} (hA : MA B m ad) {h0 : Nat → Option JCell} {c : Nat × Nat} : ∀ (v1 : UInt64) (v3 : Bool) (s0 : Bool) (T : MT), g_R_joins_74 B m v1 v3 s0 (ov m ad T h0, c) = Option.map (mV m ad h0 c) (h_R_joins_74 v1 v3 s0 T) := by
  intro v1 v3 s0 T
  simp only [jlet, g_R_joins_74, h_R_joins_74, obd_some, obd_assoc, jgd_true, ov_job, map_obd, map_tbd2, map_ite, map_jlet, map_someV, map_someF, obd_mapV, jbd2_mapF, jbd2_some, tbd2_some, ov_p_31 hA, e_R_joins_88 hA, e_R_joins_156 hA]
set_option maxRecDepth 10000 in
set_option maxHeartbeats 4000000 in
theorem e_R_joins {B m : Nat} {ad : Nat → Nat} (hA : MA B m ad) {h0 : Nat → Option JCell} {c : Nat × Nat} : ∀ (v1 : UInt64) (v3 : Bool) (T : MT), g_R_joins B m v1 v3 (ov m ad T h0, c) = Option.map (mV m ad h0 c) (h_R_joins v1 v3 T) := by
  intro v1 v3 T
  simp only [jlet, g_R_joins, h_R_joins, obd_some, obd_assoc, jgd_true, ov_job, map_obd, map_tbd2, map_ite, map_jlet, map_someV, map_someF, obd_mapV, jbd2_mapF, jbd2_some, tbd2_some, ov_g_30, ov_g_31, ov_p_31 hA, e_R_joins_33 hA, e_R_joins_74 hA, e_R_joins_88 hA, e_R_joins_156 hA]
set_option maxRecDepth 10000 in
set_option maxHeartbeats 4000000 in
theorem e_R_product_46 {B m : Nat} {ad : Nat → Nat} (hA : MA B m ad) {h0 : Nat → Option JCell} : ∀ (v1 : UInt64) (v3 : UInt64) (T : MT), g_R_product_46 m v1 v3 (ov m ad T h0) = h_R_product_46 v1 v3 T := by
  intro v1 v3 T
  simp only [jlet, g_R_product_46, h_R_product_46, obd_some, obd_assoc, jgd_true, ov_job, map_obd, map_tbd2, map_ite, map_jlet, map_someV, map_someF, obd_mapV, jbd2_mapF, jbd2_some, tbd2_some, ov_g_29, ov_g_3, ov_a_3 hA]
set_option maxRecDepth 10000 in
set_option maxHeartbeats 4000000 in
theorem e_R_product_29 {B m : Nat} {ad : Nat → Nat} (hA : MA B m ad) {h0 : Nat → Option JCell} : ∀ (v1 : UInt64) (v3 : UInt64) (T : MT), g_R_product_29 m v1 v3 (ov m ad T h0) = h_R_product_29 v1 v3 T := by
  intro v1 v3 T
  simp only [jlet, g_R_product_29, h_R_product_29, obd_some, obd_assoc, jgd_true, ov_job, map_obd, map_tbd2, map_ite, map_jlet, map_someV, map_someF, obd_mapV, jbd2_mapF, jbd2_some, tbd2_some, e_R_product_46 hA]
set_option maxRecDepth 10000 in
set_option maxHeartbeats 4000000 in
theorem e_R_product {B m : Nat} {ad : Nat → Nat} (hA : MA B m ad) {h0 : Nat → Option JCell} : ∀ (v1 : UInt64) (v3 : UInt64) (T : MT), g_R_product m v1 v3 (ov m ad T h0) = h_R_product v1 v3 T := by
  intro v1 v3 T
  simp only [jlet, g_R_product, h_R_product, obd_some, obd_assoc, jgd_true, ov_job, map_obd, map_tbd2, map_ite, map_jlet, map_someV, map_someF, obd_mapV, jbd2_mapF, jbd2_some, tbd2_some, e_R_product_29 hA]
set_option maxRecDepth 10000 in
set_option maxHeartbeats 4000000 in
theorem e_R_term_38 {B m : Nat} {ad : Nat → Nat} (hA : MA B m ad) {h0 : Nat → Option JCell} {c : Nat × Nat} : ∀ (s0 : Int64) (s1 : Int64) (T : MT), g_R_term_38 B s0 s1 m (ov m ad T h0, c) = Option.map (mV m ad h0 c) (h_R_term_38 s0 s1 T) := by
  intro s0 s1 T
  simp only [jlet, g_R_term_38, h_R_term_38, obd_some, obd_assoc, jgd_true, ov_job, map_obd, map_tbd2, map_ite, map_jlet, map_someV, map_someF, obd_mapV, jbd2_mapF, jbd2_some, tbd2_some, ov_p_32 hA]
set_option maxRecDepth 10000 in
set_option maxHeartbeats 4000000 in
theorem e_R_term {B m : Nat} {ad : Nat → Nat} (hA : MA B m ad) {h0 : Nat → Option JCell} {c : Nat × Nat} : ∀ (v1 : UInt64) (v3 : UInt64) (v5 : Bool) (T : MT), g_R_term B m v1 v3 v5 (ov m ad T h0, c) = Option.map (mV m ad h0 c) (h_R_term v1 v3 v5 T) := by
  intro v1 v3 v5 T
  simp only [jlet, g_R_term, h_R_term, obd_some, obd_assoc, jgd_true, ov_job, map_obd, map_tbd2, map_ite, map_jlet, map_someV, map_someF, obd_mapV, jbd2_mapF, jbd2_some, tbd2_some, ov_g_29, ov_g_3, ov_g_32, ov_a_3 hA, e_R_joins hA, e_R_product hA, e_R_term_38 hA]
set_option maxRecDepth 10000 in
set_option maxHeartbeats 4000000 in
theorem e_R_goesOn_175 {N B m : Nat} {ad : Nat → Nat} (hA : MA B m ad) {h0 : Nat → Option JCell} {c : Nat × Nat} : ∀ (s0 : UInt64) (T : MT), g_R_goesOn_175 N B m s0 m (ov m ad T h0, c) = Option.map (mF m ad h0 c) (h_R_goesOn_175 N s0 T) := by
  intro s0 T
  simp only [jlet, g_R_goesOn_175, h_R_goesOn_175, obd_some, obd_assoc, jgd_true, ov_job, map_obd, map_tbd2, map_ite, map_jlet, map_someV, map_someF, obd_mapV, jbd2_mapF, jbd2_some, tbd2_some, ov_g_40, ov_p_40 hA, ov_p_41 hA]
set_option maxRecDepth 10000 in
set_option maxHeartbeats 4000000 in
theorem e_R_goesOn_153 {N B m : Nat} {ad : Nat → Nat} (hA : MA B m ad) {h0 : Nat → Option JCell} {c : Nat × Nat} : ∀ (v1 : Int32) (v2 : Int32) (T : MT), g_R_goesOn_153 N B m v1 v2 (ov m ad T h0, c) = Option.map (mF m ad h0 c) (h_R_goesOn_153 N v1 v2 T) := by
  intro v1 v2 T
  simp only [jlet, g_R_goesOn_153, h_R_goesOn_153, obd_some, obd_assoc, jgd_true, ov_job, map_obd, map_tbd2, map_ite, map_jlet, map_someV, map_someF, obd_mapV, jbd2_mapF, jbd2_some, tbd2_some, ov_g_2, ov_g_38, ov_a_2 hA, ov_a_38 hA, e_R_goesOn_175 hA]
set_option maxRecDepth 10000 in
set_option maxHeartbeats 4000000 in
theorem e_R_goesOn {N B m : Nat} {ad : Nat → Nat} (hA : MA B m ad) {h0 : Nat → Option JCell} {c : Nat × Nat} : ∀ (T : MT), g_R_goesOn N B m (ov m ad T h0, c) = Option.map (mF m ad h0 c) (h_R_goesOn N  T) := by
  intro T
  simp only [jlet, g_R_goesOn, h_R_goesOn, obd_some, obd_assoc, jgd_true, ov_job, map_obd, map_tbd2, map_ite, map_jlet, map_someV, map_someF, obd_mapV, jbd2_mapF, jbd2_some, tbd2_some, ov_g_18, ov_g_33, ov_g_34, ov_g_35, ov_g_36, ov_g_37, ov_g_38, ov_g_39, ov_g_40, ov_p_34 hA, ov_p_39 hA, ov_p_40 hA, ov_p_41 hA, ov_a_18 hA, ov_s_18 hA, ov_a_35 hA, ov_s_35 hA, ov_a_36 hA, ov_s_36 hA, ov_a_37 hA, ov_s_37 hA, ov_a_38 hA, ov_s_38 hA, e_R_begins hA, e_R_c hA, e_R_comes hA, e_R_leaves hA, e_R_term hA, e_R_goesOn_153 hA]
set_option maxRecDepth 10000 in
set_option maxHeartbeats 4000000 in
theorem e_R_st {B m : Nat} {ad : Nat → Nat} (hA : MA B m ad) {h0 : Nat → Option JCell} : ∀ (v1 : Int32) (v2 : Int32) (T : MT), g_R_st m v1 v2 (ov m ad T h0) = h_R_st v1 v2 T := by
  intro v1 v2 T
  simp only [jlet, g_R_st, h_R_st, obd_some, obd_assoc, jgd_true, ov_job, map_obd, map_tbd2, map_ite, map_jlet, map_someV, map_someF, obd_mapV, jbd2_mapF, jbd2_some, tbd2_some, ov_g_13, ov_a_13 hA]
set_option maxRecDepth 10000 in
set_option maxHeartbeats 4000000 in
theorem e_R_st_2 {B m : Nat} {ad : Nat → Nat} (hA : MA B m ad) {h0 : Nat → Option JCell} {c : Nat × Nat} : ∀ (v1 : Int32) (v2 : Int32) (v3 : UInt64) (T : MT), g_R_st_2 B m v1 v2 v3 (ov m ad T h0, c) = Option.map (mV m ad h0 c) (h_R_st_2 v1 v2 v3 T) := by
  intro v1 v2 v3 T
  simp only [jlet, g_R_st_2, h_R_st_2, obd_some, obd_assoc, jgd_true, ov_job, map_obd, map_tbd2, map_ite, map_jlet, map_someV, map_someF, obd_mapV, jbd2_mapF, jbd2_some, tbd2_some, ov_g_13, ov_s_13 hA]
set_option maxRecDepth 10000 in
set_option maxHeartbeats 4000000 in
theorem e_R_term_2_38 {B m : Nat} {ad : Nat → Nat} (hA : MA B m ad) {h0 : Nat → Option JCell} {c : Nat × Nat} : ∀ (s0 : Int64) (s1 : Int64) (T : MT), g_R_term_2_38 B s0 s1 m (ov m ad T h0, c) = Option.map (mV m ad h0 c) (h_R_term_2_38 s0 s1 T) := by
  intro s0 s1 T
  simp only [jlet, g_R_term_2_38, h_R_term_2_38, obd_some, obd_assoc, jgd_true, ov_job, map_obd, map_tbd2, map_ite, map_jlet, map_someV, map_someF, obd_mapV, jbd2_mapF, jbd2_some, tbd2_some, ov_p_32 hA]
set_option maxRecDepth 10000 in
set_option maxHeartbeats 4000000 in
theorem e_R_term_2 {B m : Nat} {ad : Nat → Nat} (hA : MA B m ad) {h0 : Nat → Option JCell} {c : Nat × Nat} : ∀ (v1 : UInt64) (v3 : Bool) (T : MT), g_R_term_2 B m v1 v3 (ov m ad T h0, c) = Option.map (mV m ad h0 c) (h_R_term_2 v1 v3 T) := by
  intro v1 v3 T
  simp only [jlet, g_R_term_2, h_R_term_2, obd_some, obd_assoc, jgd_true, ov_job, map_obd, map_tbd2, map_ite, map_jlet, map_someV, map_someF, obd_mapV, jbd2_mapF, jbd2_some, tbd2_some, ov_g_29, ov_g_3, ov_g_32, ov_a_3 hA, e_R_joins hA, e_R_term_2_38 hA]
set_option maxRecDepth 10000 in
set_option maxHeartbeats 4000000 in
theorem e_R_waits {B m : Nat} {ad : Nat → Nat} (hA : MA B m ad) {h0 : Nat → Option JCell} {c : Nat × Nat} : ∀ (v1 : Int32) (T : MT), g_R_waits B m v1 (ov m ad T h0, c) = Option.map (mV m ad h0 c) (h_R_waits v1 T) := by
  intro v1 T
  simp only [jlet, g_R_waits, h_R_waits, obd_some, obd_assoc, jgd_true, ov_job, map_obd, map_tbd2, map_ite, map_jlet, map_someV, map_someF, obd_mapV, jbd2_mapF, jbd2_some, tbd2_some, ov_g_34, ov_g_35, ov_g_36, ov_g_37, ov_g_38, ov_g_39, ov_g_40, ov_g_41, ov_p_34 hA, ov_s_35 hA, ov_s_36 hA, ov_s_37 hA, ov_s_38 hA]
set_option maxRecDepth 10000 in
set_option maxHeartbeats 4000000 in
theorem e_R_rings {B m : Nat} {ad : Nat → Nat} (hA : MA B m ad) {h0 : Nat → Option JCell} {c : Nat × Nat} : ∀ (v1 : Int32) (v2 : UInt64) (T : MT), g_R_rings B m v1 v2 (ov m ad T h0, c) = Option.map (mF m ad h0 c) (h_R_rings v1 v2 T) := by
  intro v1 v2 T
  simp only [jlet, g_R_rings, h_R_rings, obd_some, obd_assoc, jgd_true, ov_job, map_obd, map_tbd2, map_ite, map_jlet, map_someV, map_someF, obd_mapV, jbd2_mapF, jbd2_some, tbd2_some, ov_g_13, ov_g_14, ov_g_4, ov_a_4 hA, ov_s_4 hA, ov_a_13 hA, ov_s_13 hA, ov_a_14 hA, ov_s_14 hA]
set_option maxRecDepth 10000 in
set_option maxHeartbeats 4000000 in
theorem e_R_shapes_78 {B m : Nat} {ad : Nat → Nat} (hA : MA B m ad) {h0 : Nat → Option JCell} {c : Nat × Nat} : ∀ (v1 : Int32) (v2 : UInt64) (v4 : UInt64) (s0 : UInt64) (T : MT), g_R_shapes_78 B m v1 v2 v4 s0 (ov m ad T h0, c) = Option.map (mF m ad h0 c) (h_R_shapes_78 v1 v2 v4 s0 T) := by
  intro v1 v2 v4 s0 T
  simp only [jlet, g_R_shapes_78, h_R_shapes_78, obd_some, obd_assoc, jgd_true, ov_job, map_obd, map_tbd2, map_ite, map_jlet, map_someV, map_someF, obd_mapV, jbd2_mapF, jbd2_some, tbd2_some, ov_g_12, ov_a_12 hA, ov_s_12 hA]
set_option maxRecDepth 10000 in
set_option maxHeartbeats 4000000 in
theorem e_R_shapes_202 {B m : Nat} {ad : Nat → Nat} (hA : MA B m ad) {h0 : Nat → Option JCell} {c : Nat × Nat} : ∀ (v1 : Int32) (v6 : UInt64) (T : MT), g_R_shapes_202 B m v1 v6 (ov m ad T h0, c) = Option.map (mF m ad h0 c) (h_R_shapes_202 v1 v6 T) := by
  intro v1 v6 T
  simp only [jlet, g_R_shapes_202, h_R_shapes_202, obd_some, obd_assoc, jgd_true, ov_job, map_obd, map_tbd2, map_ite, map_jlet, map_someV, map_someF, obd_mapV, jbd2_mapF, jbd2_some, tbd2_some, e_R_st_2 hA]
set_option maxRecDepth 10000 in
set_option maxHeartbeats 4000000 in
theorem e_R_shapes {B m : Nat} {ad : Nat → Nat} (hA : MA B m ad) {h0 : Nat → Option JCell} {c : Nat × Nat} : ∀ (v1 : Int32) (v2 : UInt64) (T : MT), g_R_shapes B m v1 v2 (ov m ad T h0, c) = Option.map (mF m ad h0 c) (h_R_shapes v1 v2 T) := by
  intro v1 v2 T
  simp only [jlet, g_R_shapes, h_R_shapes, obd_some, obd_assoc, jgd_true, ov_job, map_obd, map_tbd2, map_ite, map_jlet, map_someV, map_someF, obd_mapV, jbd2_mapF, jbd2_some, tbd2_some, ov_g_12, ov_g_2, ov_g_3, ov_a_2 hA, ov_s_2 hA, ov_a_3 hA, ov_s_3 hA, ov_a_12 hA, ov_s_12 hA, e_R_begins hA, e_R_c hA, e_R_comes hA, g_R_sizeOf, e_R_st hA, e_R_term hA, e_R_shapes_78 hA, e_R_shapes_202 hA]
set_option maxRecDepth 10000 in
set_option maxHeartbeats 4000000 in
theorem e_R_works_620 {N B m : Nat} {ad : Nat → Nat} (hA : MA B m ad) {h0 : Nat → Option JCell} {c : Nat × Nat} : ∀ (n : Nat), ∀ (v1 : Int32) (v4 : Int32) (T : MT), g_R_works_620 N B n m v1 v4 (ov m ad T h0, c) = Option.map (mF m ad h0 c) (h_R_works_620 N n v1 v4 T) := by
  intro n
  induction n with
  | zero => intros; rfl
  | succ n ih =>
    intro v1 v4 T
    simp only [jlet, g_R_works_620, h_R_works_620, obd_some, obd_assoc, jgd_true, ov_job, map_obd, map_tbd2, map_ite, map_jlet, map_someV, map_someF, obd_mapV, jbd2_mapF, jbd2_some, tbd2_some, ov_g_14, ov_g_4, ov_a_4 hA, ov_a_14 hA, e_R_begins hA, e_R_c hA, e_R_comes hA, e_R_st hA, e_R_term hA, e_R_term_2 hA, ih]
set_option maxRecDepth 10000 in
set_option maxHeartbeats 4000000 in
theorem e_R_works {N B m : Nat} {ad : Nat → Nat} (hA : MA B m ad) {h0 : Nat → Option JCell} {c : Nat × Nat} : ∀ (v1 : Int32) (v2 : UInt64) (T : MT), g_R_works N B m v1 v2 (ov m ad T h0, c) = Option.map (mF m ad h0 c) (h_R_works N v1 v2 T) := by
  intro v1 v2 T
  simp only [jlet, g_R_works, h_R_works, obd_some, obd_assoc, jgd_true, ov_job, map_obd, map_tbd2, map_ite, map_jlet, map_someV, map_someF, obd_mapV, jbd2_mapF, jbd2_some, tbd2_some, ov_g_14, ov_g_2, ov_a_2 hA, ov_a_14 hA, e_R_begins hA, e_R_c hA, e_R_comes hA, e_R_rings hA, e_R_shapes hA, e_R_st hA, e_R_st_2 hA, e_R_term hA, e_R_term_2 hA, e_R_works_620 hA]
set_option maxRecDepth 10000 in
set_option maxHeartbeats 4000000 in
theorem e_R_goes_113 {N B m : Nat} {ad : Nat → Nat} (hA : MA B m ad) {h0 : Nat → Option JCell} {c : Nat × Nat} {k26G : Nat → Int32 → Int32 → Bool → JMem → Option (Int32 × JMem)} {k26H : Int32 → Int32 → Bool → MT → Option (Int32 × MT)} (i26 : ∀ (v1 : Int32) (v4 : Int32) (v5 : Bool) (T : MT), k26G m v1 v4 v5 (ov m ad T h0, c) = Option.map (mF m ad h0 c) (k26H v1 v4 v5 T)) : ∀ (v1 : Int32) (v4 : Int32) (T : MT), g_R_goes_113 N B k26G m v1 v4 (ov m ad T h0, c) = Option.map (mF m ad h0 c) (h_R_goes_113 N k26H v1 v4 T) := by
  intro v1 v4 T
  simp only [jlet, g_R_goes_113, h_R_goes_113, obd_some, obd_assoc, jgd_true, ov_job, map_obd, map_tbd2, map_ite, map_jlet, map_someV, map_someF, obd_mapV, jbd2_mapF, jbd2_some, tbd2_some, e_R_goesOn hA, i26]
set_option maxRecDepth 10000 in
set_option maxHeartbeats 4000000 in
theorem e_R_goes_240 {N B m : Nat} {ad : Nat → Nat} (hA : MA B m ad) {h0 : Nat → Option JCell} {c : Nat × Nat} {k26G : Nat → Int32 → Int32 → Bool → JMem → Option (Int32 × JMem)} {k26H : Int32 → Int32 → Bool → MT → Option (Int32 × MT)} (i26 : ∀ (v1 : Int32) (v4 : Int32) (v5 : Bool) (T : MT), k26G m v1 v4 v5 (ov m ad T h0, c) = Option.map (mF m ad h0 c) (k26H v1 v4 v5 T)) {k149G : Nat → Int32 → Int32 → Bool → Int32 → Int32 → JMem → Option (Int32 × JMem)} {k149H : Int32 → Int32 → Bool → Int32 → Int32 → MT → Option (Int32 × MT)} (i149 : ∀ (v1 : Int32) (v4 : Int32) (v5 : Bool) (v6 : Int32) (v7 : Int32) (T : MT), k149G m v1 v4 v5 v6 v7 (ov m ad T h0, c) = Option.map (mF m ad h0 c) (k149H v1 v4 v5 v6 v7 T)) : ∀ (v1 : Int32) (v4 : Int32) (v5 : Bool) (v6 : Int32) (v7 : Int32) (T : MT), g_R_goes_240 N B k26G k149G m v1 v4 v5 v6 v7 (ov m ad T h0, c) = Option.map (mF m ad h0 c) (h_R_goes_240 N k26H k149H v1 v4 v5 v6 v7 T) := by
  intro v1 v4 v5 v6 v7 T
  simp only [jlet, g_R_goes_240, h_R_goes_240, obd_some, obd_assoc, jgd_true, ov_job, map_obd, map_tbd2, map_ite, map_jlet, map_someV, map_someF, obd_mapV, jbd2_mapF, jbd2_some, tbd2_some, i149]
set_option maxRecDepth 10000 in
set_option maxHeartbeats 4000000 in
theorem e_R_goes_430 {N B m : Nat} {ad : Nat → Nat} (hA : MA B m ad) {h0 : Nat → Option JCell} {c : Nat × Nat} {k26G : Nat → Int32 → Int32 → Bool → JMem → Option (Int32 × JMem)} {k26H : Int32 → Int32 → Bool → MT → Option (Int32 × MT)} (i26 : ∀ (v1 : Int32) (v4 : Int32) (v5 : Bool) (T : MT), k26G m v1 v4 v5 (ov m ad T h0, c) = Option.map (mF m ad h0 c) (k26H v1 v4 v5 T)) : ∀ (v1 : Int32) (v4 : Int32) (v5 : Bool) (T : MT), g_R_goes_430 N B k26G m v1 v4 v5 (ov m ad T h0, c) = Option.map (mF m ad h0 c) (h_R_goes_430 N k26H v1 v4 v5 T) := by
  intro v1 v4 v5 T
  simp only [jlet, g_R_goes_430, h_R_goes_430, obd_some, obd_assoc, jgd_true, ov_job, map_obd, map_tbd2, map_ite, map_jlet, map_someV, map_someF, obd_mapV, jbd2_mapF, jbd2_some, tbd2_some, i26]
set_option maxRecDepth 10000 in
set_option maxHeartbeats 4000000 in
theorem e_R_goes_312 {N B m : Nat} {ad : Nat → Nat} (hA : MA B m ad) {h0 : Nat → Option JCell} {c : Nat × Nat} {k26G : Nat → Int32 → Int32 → Bool → JMem → Option (Int32 × JMem)} {k26H : Int32 → Int32 → Bool → MT → Option (Int32 × MT)} (i26 : ∀ (v1 : Int32) (v4 : Int32) (v5 : Bool) (T : MT), k26G m v1 v4 v5 (ov m ad T h0, c) = Option.map (mF m ad h0 c) (k26H v1 v4 v5 T)) : ∀ (v1 : Int32) (v4 : Int32) (v5 : Bool) (T : MT), g_R_goes_312 N B k26G m v1 v4 v5 (ov m ad T h0, c) = Option.map (mF m ad h0 c) (h_R_goes_312 N k26H v1 v4 v5 T) := by
  intro v1 v4 v5 T
  simp only [jlet, g_R_goes_312, h_R_goes_312, obd_some, obd_assoc, jgd_true, ov_job, map_obd, map_tbd2, map_ite, map_jlet, map_someV, map_someF, obd_mapV, jbd2_mapF, jbd2_some, tbd2_some, e_R_goes_430 hA (k26G := k26G) (k26H := k26H) i26]
set_option maxRecDepth 10000 in
set_option maxHeartbeats 4000000 in
theorem e_R_goes_339 {N B m : Nat} {ad : Nat → Nat} (hA : MA B m ad) {h0 : Nat → Option JCell} {c : Nat × Nat} {k26G : Nat → Int32 → Int32 → Bool → JMem → Option (Int32 × JMem)} {k26H : Int32 → Int32 → Bool → MT → Option (Int32 × MT)} (i26 : ∀ (v1 : Int32) (v4 : Int32) (v5 : Bool) (T : MT), k26G m v1 v4 v5 (ov m ad T h0, c) = Option.map (mF m ad h0 c) (k26H v1 v4 v5 T)) : ∀ (v1 : Int32) (v4 : Int32) (v5 : Bool) (v6 : Int32) (T : MT), g_R_goes_339 N B k26G m v1 v4 v5 v6 (ov m ad T h0, c) = Option.map (mF m ad h0 c) (h_R_goes_339 N k26H v1 v4 v5 v6 T) := by
  intro v1 v4 v5 v6 T
  simp only [jlet, g_R_goes_339, h_R_goes_339, obd_some, obd_assoc, jgd_true, ov_job, map_obd, map_tbd2, map_ite, map_jlet, map_someV, map_someF, obd_mapV, jbd2_mapF, jbd2_some, tbd2_some, ov_g_4, ov_g_40, ov_p_40 hA, ov_a_4 hA, e_R_waits hA, e_R_goes_430 hA (k26G := k26G) (k26H := k26H) i26]
set_option maxRecDepth 10000 in
set_option maxHeartbeats 4000000 in
theorem e_R_goes_412 {N B m : Nat} {ad : Nat → Nat} (hA : MA B m ad) {h0 : Nat → Option JCell} {c : Nat × Nat} {k26G : Nat → Int32 → Int32 → Bool → JMem → Option (Int32 × JMem)} {k26H : Int32 → Int32 → Bool → MT → Option (Int32 × MT)} (i26 : ∀ (v1 : Int32) (v4 : Int32) (v5 : Bool) (T : MT), k26G m v1 v4 v5 (ov m ad T h0, c) = Option.map (mF m ad h0 c) (k26H v1 v4 v5 T)) : ∀ (v1 : Int32) (v4 : Int32) (v5 : Bool) (v6 : Int32) (T : MT), g_R_goes_412 N B k26G m v1 v4 v5 v6 (ov m ad T h0, c) = Option.map (mF m ad h0 c) (h_R_goes_412 N k26H v1 v4 v5 v6 T) := by
  intro v1 v4 v5 v6 T
  simp only [jlet, g_R_goes_412, h_R_goes_412, obd_some, obd_assoc, jgd_true, ov_job, map_obd, map_tbd2, map_ite, map_jlet, map_someV, map_someF, obd_mapV, jbd2_mapF, jbd2_some, tbd2_some, ov_g_41, ov_p_41 hA, e_R_leaves hA, e_R_works hA, e_R_goes_430 hA (k26G := k26G) (k26H := k26H) i26]
set_option maxRecDepth 10000 in
set_option maxHeartbeats 4000000 in
theorem e_R_goes_149 {N B m : Nat} {ad : Nat → Nat} (hA : MA B m ad) {h0 : Nat → Option JCell} {c : Nat × Nat} {k26G : Nat → Int32 → Int32 → Bool → JMem → Option (Int32 × JMem)} {k26H : Int32 → Int32 → Bool → MT → Option (Int32 × MT)} (i26 : ∀ (v1 : Int32) (v4 : Int32) (v5 : Bool) (T : MT), k26G m v1 v4 v5 (ov m ad T h0, c) = Option.map (mF m ad h0 c) (k26H v1 v4 v5 T)) : ∀ (n : Nat), ∀ (v1 : Int32) (v4 : Int32) (v5 : Bool) (v6 : Int32) (v7 : Int32) (T : MT), g_R_goes_149 N B k26G n m v1 v4 v5 v6 v7 (ov m ad T h0, c) = Option.map (mF m ad h0 c) (h_R_goes_149 N k26H n v1 v4 v5 v6 v7 T) := by
  intro n
  induction n with
  | zero => intros; rfl
  | succ n ih =>
    intro v1 v4 v5 v6 v7 T
    simp only [jlet, g_R_goes_149, h_R_goes_149, obd_some, obd_assoc, jgd_true, ov_job, map_obd, map_tbd2, map_ite, map_jlet, map_someV, map_someF, obd_mapV, jbd2_mapF, jbd2_some, tbd2_some, ov_g_10, ov_g_2, ov_g_20, ov_g_22, ov_g_24, ov_g_25, ov_g_26, ov_g_39, ov_g_4, ov_g_40, ov_g_41, ov_p_39 hA, ov_p_40 hA, ov_p_41 hA, ov_a_2 hA, ov_a_4 hA, ov_a_10 hA, ov_a_20 hA, ov_a_22 hA, ov_a_24 hA, ov_a_25 hA, ov_a_26 hA, e_R_begins hA, e_R_comes hA, e_R_goesOn hA, e_R_st hA, e_R_st_2 hA, e_R_term hA, e_R_term_2 hA, e_R_waits hA, e_R_goes_240 hA (k26G := k26G) (k26H := k26H) i26 (k149G := g_R_goes_149 N B k26G n) (k149H := h_R_goes_149 N k26H n) ih, e_R_goes_312 hA (k26G := k26G) (k26H := k26H) i26, e_R_goes_339 hA (k26G := k26G) (k26H := k26H) i26, e_R_goes_412 hA (k26G := k26G) (k26H := k26H) i26, e_R_goes_430 hA (k26G := k26G) (k26H := k26H) i26]
set_option maxRecDepth 10000 in
set_option maxHeartbeats 4000000 in
theorem e_R_goes_26 {N B m : Nat} {ad : Nat → Nat} (hA : MA B m ad) {h0 : Nat → Option JCell} {c : Nat × Nat} : ∀ (n : Nat), ∀ (v1 : Int32) (v4 : Int32) (v5 : Bool) (T : MT), g_R_goes_26 N B n m v1 v4 v5 (ov m ad T h0, c) = Option.map (mF m ad h0 c) (h_R_goes_26 N n v1 v4 v5 T) := by
  intro n
  induction n with
  | zero => intros; rfl
  | succ n ih =>
    intro v1 v4 v5 T
    simp only [jlet, g_R_goes_26, h_R_goes_26, obd_some, obd_assoc, jgd_true, ov_job, map_obd, map_tbd2, map_ite, map_jlet, map_someV, map_someF, obd_mapV, jbd2_mapF, jbd2_some, tbd2_some, ov_g_17, ov_g_18, ov_g_27, ov_g_28, ov_g_39, ov_g_40, ov_g_41, ov_p_33 hA, ov_a_17 hA, ov_s_17 hA, ov_a_18 hA, ov_s_18 hA, ov_a_27 hA, ov_s_27 hA, ov_a_28 hA, ov_s_28 hA, e_R_goes_113 hA (k26G := g_R_goes_26 N B n) (k26H := h_R_goes_26 N n) ih, e_R_goes_149 hA (k26G := g_R_goes_26 N B n) (k26H := h_R_goes_26 N n) ih]
set_option maxRecDepth 10000 in
set_option maxHeartbeats 4000000 in
theorem e_R_goes {N B m : Nat} {ad : Nat → Nat} (hA : MA B m ad) {h0 : Nat → Option JCell} {c : Nat × Nat} : ∀ (v1 : Int32) (v2 : UInt64) (T : MT), g_R_goes N B m v1 v2 (ov m ad T h0, c) = Option.map (mF m ad h0 c) (h_R_goes N v1 v2 T) := by
  intro v1 v2 T
  simp only [jlet, g_R_goes, h_R_goes, obd_some, obd_assoc, jgd_true, ov_job, map_obd, map_tbd2, map_ite, map_jlet, map_someV, map_someF, obd_mapV, jbd2_mapF, jbd2_some, tbd2_some, ov_p_34 hA, ov_p_39 hA, ov_p_40 hA, ov_p_41 hA, e_R_goes_26 hA]
set_option maxRecDepth 10000 in
set_option maxHeartbeats 4000000 in
theorem e_R_isFed {B m : Nat} {ad : Nat → Nat} (hA : MA B m ad) {h0 : Nat → Option JCell} : ∀ (v1 : Int32) (T : MT), g_R_isFed m v1 (ov m ad T h0) = h_R_isFed v1 T := by
  intro v1 T
  simp only [jlet, g_R_isFed, h_R_isFed, obd_some, obd_assoc, jgd_true, ov_job, map_obd, map_tbd2, map_ite, map_jlet, map_someV, map_someF, obd_mapV, jbd2_mapF, jbd2_some, tbd2_some, ov_g_17, ov_g_19, ov_a_17 hA, ov_a_19 hA, e_R_isChain hA]
set_option maxRecDepth 10000 in
set_option maxHeartbeats 4000000 in
theorem e_R_feed {N B m : Nat} {ad : Nat → Nat} (hA : MA B m ad) {h0 : Nat → Option JCell} {c : Nat × Nat} : ∀ (v1 : Int32) (v2 : Int64) (T : MT), g_R_feed N B m v1 v2 (ov m ad T h0, c) = Option.map (mF m ad h0 c) (h_R_feed N v1 v2 T) := by
  intro v1 v2 T
  simp only [jlet, g_R_feed, h_R_feed, obd_some, obd_assoc, jgd_true, ov_job, map_obd, map_tbd2, map_ite, map_jlet, map_someV, map_someF, obd_mapV, jbd2_mapF, jbd2_some, tbd2_some, e_R_goes hA, e_R_isFed hA, e_R_sortOf hA]
set_option maxRecDepth 10000 in
set_option maxHeartbeats 4000000 in
theorem e_R_run_65 {N B m : Nat} {ad : Nat → Nat} (hA : MA B m ad) {h0 : Nat → Option JCell} {c : Nat × Nat} {k29G : Nat → Int32 → Int32 → Int32 → Int32 → Int32 → JMem → Option (Int32 × JMem)} {k29H : Int32 → Int32 → Int32 → Int32 → Int32 → MT → Option (Int32 × MT)} (i29 : ∀ (v1 : Int32) (v2 : Int32) (v4 : Int32) (v5 : Int32) (v6 : Int32) (T : MT), k29G m v1 v2 v4 v5 v6 (ov m ad T h0, c) = Option.map (mF m ad h0 c) (k29H v1 v2 v4 v5 v6 T)) : ∀ (v1 : Int32) (v2 : Int32) (v5 : Int32) (v6 : Int32) (s0 : UInt64) (s1 : Int32) (s3 : Int32) (T : MT), g_R_run_65 N B k29G m v1 v2 v5 v6 s0 s1 m s3 (ov m ad T h0, c) = Option.map (mF m ad h0 c) (h_R_run_65 N k29H v1 v2 v5 v6 s0 s1 s3 T) := by
  intro v1 v2 v5 v6 s0 s1 s3 T
  simp only [jlet, g_R_run_65, h_R_run_65, obd_some, obd_assoc, jgd_true, ov_job, map_obd, map_tbd2, map_ite, map_jlet, map_someV, map_someF, obd_mapV, jbd2_mapF, jbd2_some, tbd2_some, e_R_goes hA, i29]
set_option maxRecDepth 10000 in
set_option maxHeartbeats 4000000 in
theorem e_R_run_29 {N B m : Nat} {ad : Nat → Nat} (hA : MA B m ad) {h0 : Nat → Option JCell} {c : Nat × Nat} : ∀ (n : Nat), ∀ (v1 : Int32) (v2 : Int32) (v4 : Int32) (v5 : Int32) (v6 : Int32) (T : MT), g_R_run_29 N B n m v1 v2 v4 v5 v6 (ov m ad T h0, c) = Option.map (mF m ad h0 c) (h_R_run_29 N n v1 v2 v4 v5 v6 T) := by
  intro n
  induction n with
  | zero => intros; rfl
  | succ n ih =>
    intro v1 v2 v4 v5 v6 T
    simp only [jlet, g_R_run_29, h_R_run_29, obd_some, obd_assoc, jgd_true, ov_job, map_obd, map_tbd2, map_ite, map_jlet, map_someV, map_someF, obd_mapV, jbd2_mapF, jbd2_some, tbd2_some, e_R_sortOf hA, e_R_run_65 hA (k29G := g_R_run_29 N B n) (k29H := h_R_run_29 N n) ih]
set_option maxRecDepth 10000 in
set_option maxHeartbeats 4000000 in
theorem e_R_run {N B m : Nat} {ad : Nat → Nat} (hA : MA B m ad) {h0 : Nat → Option JCell} {c : Nat × Nat} : ∀ (v1 : Int32) (v2 : Int32) (v3 : Int32) (T : MT), g_R_run N B m v1 v2 v3 (ov m ad T h0, c) = Option.map (mF m ad h0 c) (h_R_run N v1 v2 v3 T) := by
  intro v1 v2 v3 T
  simp only [jlet, g_R_run, h_R_run, obd_some, obd_assoc, jgd_true, ov_job, map_obd, map_tbd2, map_ite, map_jlet, map_someV, map_someF, obd_mapV, jbd2_mapF, jbd2_some, tbd2_some, e_R_isFed hA, e_R_run_29 hA]
set_option maxRecDepth 10000 in
set_option maxHeartbeats 4000000 in
theorem e_R_isKeptOut {B m : Nat} {ad : Nat → Nat} (hA : MA B m ad) {h0 : Nat → Option JCell} : ∀ (v1 : Int32) (v2 : Int32) (T : MT), g_R_isKeptOut m v1 v2 (ov m ad T h0) = h_R_isKeptOut v1 v2 T := by
  intro v1 v2 T
  simp only [jlet, g_R_isKeptOut, h_R_isKeptOut, obd_some, obd_assoc, jgd_true, ov_job, map_obd, map_tbd2, map_ite, map_jlet, map_someV, map_someF, obd_mapV, jbd2_mapF, jbd2_some, tbd2_some, ov_g_28, ov_a_28 hA]
set_option maxRecDepth 10000 in
set_option maxHeartbeats 4000000 in
theorem e_R_output {B m : Nat} {ad : Nat → Nat} (hA : MA B m ad) {h0 : Nat → Option JCell} : ∀ (v1 : Int32) (v2 : Int32) (T : MT), g_R_output m v1 v2 (ov m ad T h0) = h_R_output v1 v2 T := by
  intro v1 v2 T
  simp only [jlet, g_R_output, h_R_output, obd_some, obd_assoc, jgd_true, ov_job, map_obd, map_tbd2, map_ite, map_jlet, map_someV, map_someF, obd_mapV, jbd2_mapF, jbd2_some, tbd2_some, ov_g_27, ov_a_27 hA, e_R_isChain hA, e_R_isKeptOut hA, e_R_sortOf hA]
set_option maxRecDepth 10000 in
set_option maxHeartbeats 4000000 in
theorem e_R_state_175 {B m : Nat} {ad : Nat → Nat} (hA : MA B m ad) {h0 : Nat → Option JCell} : ∀ (v1 : Int32) (v2 : Int32) (v3 : Int32) (T : MT), g_R_state_175 m v1 v2 v3 (ov m ad T h0) = h_R_state_175 v1 v2 v3 T := by
  intro v1 v2 v3 T
  simp only [jlet, g_R_state_175, h_R_state_175, obd_some, obd_assoc, jgd_true, ov_job, map_obd, map_tbd2, map_ite, map_jlet, map_someV, map_someF, obd_mapV, jbd2_mapF, jbd2_some, tbd2_some, ov_g_3, ov_a_3 hA, e_R_st hA]
set_option maxRecDepth 10000 in
set_option maxHeartbeats 4000000 in
theorem e_R_state_92 {B m : Nat} {ad : Nat → Nat} (hA : MA B m ad) {h0 : Nat → Option JCell} : ∀ (v1 : Int32) (v2 : Int32) (T : MT), g_R_state_92 m v1 v2 (ov m ad T h0) = h_R_state_92 v1 v2 T := by
  intro v1 v2 T
  simp only [jlet, g_R_state_92, h_R_state_92, obd_some, obd_assoc, jgd_true, ov_job, map_obd, map_tbd2, map_ite, map_jlet, map_someV, map_someF, obd_mapV, jbd2_mapF, jbd2_some, tbd2_some, e_R_state_175 hA]
set_option maxRecDepth 10000 in
set_option maxHeartbeats 4000000 in
theorem e_R_state_102 {B m : Nat} {ad : Nat → Nat} (hA : MA B m ad) {h0 : Nat → Option JCell} : ∀ (v1 : Int32) (v2 : Int32) (T : MT), g_R_state_102 m v1 v2 (ov m ad T h0) = h_R_state_102 v1 v2 T := by
  intro v1 v2 T
  simp only [jlet, g_R_state_102, h_R_state_102, obd_some, obd_assoc, jgd_true, ov_job, map_obd, map_tbd2, map_ite, map_jlet, map_someV, map_someF, obd_mapV, jbd2_mapF, jbd2_some, tbd2_some, e_R_state_175 hA]
set_option maxRecDepth 10000 in
set_option maxHeartbeats 4000000 in
theorem e_R_state_107 {B m : Nat} {ad : Nat → Nat} (hA : MA B m ad) {h0 : Nat → Option JCell} : ∀ (v1 : Int32) (v2 : Int32) (T : MT), g_R_state_107 m v1 v2 (ov m ad T h0) = h_R_state_107 v1 v2 T := by
  intro v1 v2 T
  simp only [jlet, g_R_state_107, h_R_state_107, obd_some, obd_assoc, jgd_true, ov_job, map_obd, map_tbd2, map_ite, map_jlet, map_someV, map_someF, obd_mapV, jbd2_mapF, jbd2_some, tbd2_some, ov_g_14, ov_g_3, ov_g_4, ov_a_3 hA, ov_a_4 hA, ov_a_14 hA, e_R_st hA]
set_option maxRecDepth 10000 in
set_option maxHeartbeats 4000000 in
theorem e_R_state_173 {B m : Nat} {ad : Nat → Nat} (hA : MA B m ad) {h0 : Nat → Option JCell} : ∀ (v1 : Int32) (v2 : Int32) (T : MT), g_R_state_173 m v1 v2 (ov m ad T h0) = h_R_state_173 v1 v2 T := by
  intro v1 v2 T
  simp only [jlet, g_R_state_173, h_R_state_173, obd_some, obd_assoc, jgd_true, ov_job, map_obd, map_tbd2, map_ite, map_jlet, map_someV, map_someF, obd_mapV, jbd2_mapF, jbd2_some, tbd2_some, e_R_state_175 hA]
set_option maxRecDepth 10000 in
set_option maxHeartbeats 4000000 in
theorem e_R_state {B m : Nat} {ad : Nat → Nat} (hA : MA B m ad) {h0 : Nat → Option JCell} : ∀ (v1 : Int32) (v2 : Int32) (T : MT), g_R_state m v1 v2 (ov m ad T h0) = h_R_state v1 v2 T := by
  intro v1 v2 T
  simp only [jlet, g_R_state, h_R_state, obd_some, obd_assoc, jgd_true, ov_job, map_obd, map_tbd2, map_ite, map_jlet, map_someV, map_someF, obd_mapV, jbd2_mapF, jbd2_some, tbd2_some, ov_g_15, ov_g_2, ov_a_2 hA, ov_a_15 hA, e_R_isSection hA, e_R_st hA, e_R_state_92 hA, e_R_state_102 hA, e_R_state_107 hA, e_R_state_173 hA, e_R_state_175 hA]
set_option maxRecDepth 10000 in
set_option maxHeartbeats 4000000 in
theorem e_R_about {B m : Nat} {ad : Nat → Nat} (hA : MA B m ad) {h0 : Nat → Option JCell} : ∀ (v1 : Int32) (v2 : Int32) (T : MT), g_R_about m v1 v2 (ov m ad T h0) = h_R_about v1 v2 T := by
  intro v1 v2 T
  simp only [jlet, g_R_about, h_R_about, obd_some, obd_assoc, jgd_true, ov_job, map_obd, map_tbd2, map_ite, map_jlet, map_someV, map_someF, obd_mapV, jbd2_mapF, jbd2_some, tbd2_some, ov_g_10, ov_g_11, ov_g_12, ov_g_2, ov_g_3, ov_g_4, ov_g_5, ov_g_6, ov_g_8, ov_g_9, ov_a_2 hA, ov_a_3 hA, ov_a_4 hA, ov_a_5 hA, ov_a_6 hA, ov_a_8 hA, ov_a_9 hA, ov_a_10 hA, ov_a_11 hA, ov_a_12 hA, e_R_isSection hA]
set_option maxRecDepth 10000 in
set_option maxHeartbeats 4000000 in
theorem e_R_told {B m : Nat} {ad : Nat → Nat} (hA : MA B m ad) {h0 : Nat → Option JCell} : ∀ (v1 : Int32) (v2 : Int32) (T : MT), g_R_told m v1 v2 (ov m ad T h0) = h_R_told v1 v2 T := by
  intro v1 v2 T
  simp only [jlet, g_R_told, h_R_told, obd_some, obd_assoc, jgd_true, ov_job, map_obd, map_tbd2, map_ite, map_jlet, map_someV, map_someF, obd_mapV, jbd2_mapF, jbd2_some, tbd2_some, ov_g_3, ov_a_3 hA, e_R_c hA, e_R_isCoefficient hA]
set_option maxRecDepth 10000 in
set_option maxHeartbeats 4000000 in
theorem e_R_empties_27 {N B m : Nat} {ad : Nat → Nat} (hA : MA B m ad) {h0 : Nat → Option JCell} {c : Nat × Nat} {k11G : Nat → Int32 → Int32 → JMem → Option JMem} {k11H : Int32 → Int32 → MT → Option MT} (i11 : ∀ (v1 : Int32) (v2 : Int32) (T : MT), k11G m v1 v2 (ov m ad T h0, c) = Option.map (mV m ad h0 c) (k11H v1 v2 T)) : ∀ (n : Nat), ∀ (v1 : Int32) (v2 : Int32) (v3 : Int32) (T : MT), g_R_empties_27 N B k11G n m v1 v2 v3 (ov m ad T h0, c) = Option.map (mV m ad h0 c) (h_R_empties_27 N k11H n v1 v2 v3 T) := by
  intro n
  induction n with
  | zero => intros; rfl
  | succ n ih =>
    intro v1 v2 v3 T
    simp only [jlet, g_R_empties_27, h_R_empties_27, obd_some, obd_assoc, jgd_true, ov_job, map_obd, map_tbd2, map_ite, map_jlet, map_someV, map_someF, obd_mapV, jbd2_mapF, jbd2_some, tbd2_some, ov_g_25, ov_g_26, ov_s_25 hA, ov_s_26 hA, i11, ih]
set_option maxRecDepth 10000 in
set_option maxHeartbeats 4000000 in
theorem e_R_empties_66 {N B m : Nat} {ad : Nat → Nat} (hA : MA B m ad) {h0 : Nat → Option JCell} {c : Nat × Nat} : ∀ (n : Nat), ∀ (v1 : Int32) (v2 : Int32) (T : MT), g_R_empties_66 N B n m v1 v2 (ov m ad T h0, c) = Option.map (mV m ad h0 c) (h_R_empties_66 N n v1 v2 T) := by
  intro n
  induction n with
  | zero => intros; rfl
  | succ n ih =>
    intro v1 v2 T
    simp only [jlet, g_R_empties_66, h_R_empties_66, obd_some, obd_assoc, jgd_true, ov_job, map_obd, map_tbd2, map_ite, map_jlet, map_someV, map_someF, obd_mapV, jbd2_mapF, jbd2_some, tbd2_some, ov_g_17, ov_g_18, ov_a_17 hA, ov_a_18 hA, e_R_clears hA, ih]
set_option maxRecDepth 10000 in
set_option maxHeartbeats 4000000 in
theorem e_R_empties_11 {N B m : Nat} {ad : Nat → Nat} (hA : MA B m ad) {h0 : Nat → Option JCell} {c : Nat × Nat} : ∀ (n : Nat), ∀ (v1 : Int32) (v2 : Int32) (T : MT), g_R_empties_11 N B n m v1 v2 (ov m ad T h0, c) = Option.map (mV m ad h0 c) (h_R_empties_11 N n v1 v2 T) := by
  intro n
  induction n with
  | zero => intros; rfl
  | succ n ih =>
    intro v1 v2 T
    simp only [jlet, g_R_empties_11, h_R_empties_11, obd_some, obd_assoc, jgd_true, ov_job, map_obd, map_tbd2, map_ite, map_jlet, map_someV, map_someF, obd_mapV, jbd2_mapF, jbd2_some, tbd2_some, ov_g_20, ov_a_20 hA, e_R_empties_27 hA (k11G := g_R_empties_11 N B n) (k11H := h_R_empties_11 N n) ih, e_R_empties_66 hA]
set_option maxRecDepth 10000 in
set_option maxHeartbeats 4000000 in
theorem e_R_empties {N B m : Nat} {ad : Nat → Nat} (hA : MA B m ad) {h0 : Nat → Option JCell} {c : Nat × Nat} : ∀ (v1 : Int32) (T : MT), g_R_empties N B m v1 (ov m ad T h0, c) = Option.map (mV m ad h0 c) (h_R_empties N v1 T) := by
  intro v1 T
  simp only [jlet, g_R_empties, h_R_empties, obd_some, obd_assoc, jgd_true, ov_job, map_obd, map_tbd2, map_ite, map_jlet, map_someV, map_someF, obd_mapV, jbd2_mapF, jbd2_some, tbd2_some, ov_g_28, ov_s_28 hA, e_R_empties_11 hA]
set_option maxRecDepth 10000 in
set_option maxHeartbeats 4000000 in
theorem e_R_trees_97 {N B m : Nat} {ad : Nat → Nat} (hA : MA B m ad) {h0 : Nat → Option JCell} {c : Nat × Nat} {k14G : Nat → Int32 → JMem → Option JMem} {k14H : Int32 → MT → Option MT} (i14 : ∀ (v2 : Int32) (T : MT), k14G m v2 (ov m ad T h0, c) = Option.map (mV m ad h0 c) (k14H v2 T)) {k24G : Nat → Int32 → Int32 → JMem → Option JMem} {k24H : Int32 → Int32 → MT → Option MT} (i24 : ∀ (v2 : Int32) (v3 : Int32) (T : MT), k24G m v2 v3 (ov m ad T h0, c) = Option.map (mV m ad h0 c) (k24H v2 v3 T)) : ∀ (v2 : Int32) (v3 : Int32) (T : MT), g_R_trees_97 N B k14G k24G m v2 v3 (ov m ad T h0, c) = Option.map (mV m ad h0 c) (h_R_trees_97 N k14H k24H v2 v3 T) := by
  intro v2 v3 T
  simp only [jlet, g_R_trees_97, h_R_trees_97, obd_some, obd_assoc, jgd_true, ov_job, map_obd, map_tbd2, map_ite, map_jlet, map_someV, map_someF, obd_mapV, jbd2_mapF, jbd2_some, tbd2_some, i24]
set_option maxRecDepth 10000 in
set_option maxHeartbeats 4000000 in
theorem e_R_trees_24 {N B m : Nat} {ad : Nat → Nat} (hA : MA B m ad) {h0 : Nat → Option JCell} {c : Nat × Nat} {k14G : Nat → Int32 → JMem → Option JMem} {k14H : Int32 → MT → Option MT} (i14 : ∀ (v2 : Int32) (T : MT), k14G m v2 (ov m ad T h0, c) = Option.map (mV m ad h0 c) (k14H v2 T)) : ∀ (n : Nat), ∀ (v2 : Int32) (v3 : Int32) (T : MT), g_R_trees_24 N B k14G n m v2 v3 (ov m ad T h0, c) = Option.map (mV m ad h0 c) (h_R_trees_24 N k14H n v2 v3 T) := by
  intro n
  induction n with
  | zero => intros; rfl
  | succ n ih =>
    intro v2 v3 T
    simp only [jlet, g_R_trees_24, h_R_trees_24, obd_some, obd_assoc, jgd_true, ov_job, map_obd, map_tbd2, map_ite, map_jlet, map_someV, map_someF, obd_mapV, jbd2_mapF, jbd2_some, tbd2_some, ov_g_10, ov_g_17, ov_g_18, ov_g_42, ov_g_43, ov_p_42 hA, ov_a_10 hA, ov_s_10 hA, ov_a_17 hA, ov_s_17 hA, ov_a_18 hA, ov_s_18 hA, ov_a_43 hA, ov_s_43 hA, i14, e_R_trees_97 hA (k14G := k14G) (k14H := k14H) i14 (k24G := g_R_trees_24 N B k14G n) (k24H := h_R_trees_24 N k14H n) ih]
set_option maxRecDepth 10000 in
set_option maxHeartbeats 4000000 in
theorem e_R_trees_14 {N B m : Nat} {ad : Nat → Nat} (hA : MA B m ad) {h0 : Nat → Option JCell} {c : Nat × Nat} : ∀ (n : Nat), ∀ (v2 : Int32) (T : MT), g_R_trees_14 N B n m v2 (ov m ad T h0, c) = Option.map (mV m ad h0 c) (h_R_trees_14 N n v2 T) := by
  intro n
  induction n with
  | zero => intros; rfl
  | succ n ih =>
    intro v2 T
    simp only [jlet, g_R_trees_14, h_R_trees_14, obd_some, obd_assoc, jgd_true, ov_job, map_obd, map_tbd2, map_ite, map_jlet, map_someV, map_someF, obd_mapV, jbd2_mapF, jbd2_some, tbd2_some, ov_g_42, e_R_trees_24 hA (k14G := g_R_trees_14 N B n) (k14H := h_R_trees_14 N n) ih]
set_option maxRecDepth 10000 in
set_option maxHeartbeats 4000000 in
theorem e_R_trees {N B m : Nat} {ad : Nat → Nat} (hA : MA B m ad) {h0 : Nat → Option JCell} {c : Nat × Nat} : ∀ (v1 : Int32) (T : MT), g_R_trees N B m v1 (ov m ad T h0, c) = Option.map (mV m ad h0 c) (h_R_trees N v1 T) := by
  intro v1 T
  simp only [jlet, g_R_trees, h_R_trees, obd_some, obd_assoc, jgd_true, ov_job, map_obd, map_tbd2, map_ite, map_jlet, map_someV, map_someF, obd_mapV, jbd2_mapF, jbd2_some, tbd2_some, ov_g_43, ov_p_42 hA, ov_s_43 hA, e_R_trees_14 hA]
set_option maxRecDepth 10000 in
set_option maxHeartbeats 4000000 in
theorem e_R_reset_17 {N B m : Nat} {ad : Nat → Nat} (hA : MA B m ad) {h0 : Nat → Option JCell} {c : Nat × Nat} : ∀ (n : Nat), ∀ (v2 : Int32) (T : MT), g_R_reset_17 N B n m v2 (ov m ad T h0, c) = Option.map (mF m ad h0 c) (h_R_reset_17 N n v2 T) := by
  intro n
  induction n with
  | zero => intros; rfl
  | succ n ih =>
    intro v2 T
    simp only [jlet, g_R_reset_17, h_R_reset_17, obd_some, obd_assoc, jgd_true, ov_job, map_obd, map_tbd2, map_ite, map_jlet, map_someV, map_someF, obd_mapV, jbd2_mapF, jbd2_some, tbd2_some, ov_g_42, ov_g_43, ov_a_43 hA, e_R_empties hA, ih]
set_option maxRecDepth 10000 in
set_option maxHeartbeats 4000000 in
theorem e_R_reset {N B m : Nat} {ad : Nat → Nat} (hA : MA B m ad) {h0 : Nat → Option JCell} {c : Nat × Nat} : ∀ (v1 : Int32) (T : MT), g_R_reset N B m v1 (ov m ad T h0, c) = Option.map (mF m ad h0 c) (h_R_reset N v1 T) := by
  intro v1 T
  simp only [jlet, g_R_reset, h_R_reset, obd_some, obd_assoc, jgd_true, ov_job, map_obd, map_tbd2, map_ite, map_jlet, map_someV, map_someF, obd_mapV, jbd2_mapF, jbd2_some, tbd2_some, e_R_isChain hA, e_R_trees hA, e_R_reset_17 hA]
set_option maxRecDepth 10000 in
set_option maxHeartbeats 4000000 in
theorem e_R_keeps_63 {N B m : Nat} {ad : Nat → Nat} (hA : MA B m ad) {h0 : Nat → Option JCell} {c : Nat × Nat} {k38G : Nat → Int32 → Int32 → Int32 → JMem → Option JMem} {k38H : Int32 → Int32 → Int32 → MT → Option MT} (i38 : ∀ (v1 : Int32) (v2 : Int32) (v3 : Int32) (T : MT), k38G m v1 v2 v3 (ov m ad T h0, c) = Option.map (mV m ad h0 c) (k38H v1 v2 v3 T)) : ∀ (n : Nat), ∀ (v1 : Int32) (v2 : Int32) (v3 : Int32) (v4 : Int32) (v5 : Int32) (T : MT), g_R_keeps_63 N B k38G n m v1 v2 v3 v4 v5 (ov m ad T h0, c) = Option.map (mV m ad h0 c) (h_R_keeps_63 N k38H n v1 v2 v3 v4 v5 T) := by
  intro n
  induction n with
  | zero => intros; rfl
  | succ n ih =>
    intro v1 v2 v3 v4 v5 T
    simp only [jlet, g_R_keeps_63, h_R_keeps_63, obd_some, obd_assoc, jgd_true, ov_job, map_obd, map_tbd2, map_ite, map_jlet, map_someV, map_someF, obd_mapV, jbd2_mapF, jbd2_some, tbd2_some, ov_g_25, ov_g_26, ov_g_49, ov_g_50, ov_a_25 hA, ov_s_25 hA, ov_a_26 hA, ov_s_26 hA, ov_a_49 hA, ov_s_49 hA, ov_a_50 hA, ov_s_50 hA, i38, ih]
set_option maxRecDepth 10000 in
set_option maxHeartbeats 4000000 in
theorem e_R_keeps_157 {N B m : Nat} {ad : Nat → Nat} (hA : MA B m ad) {h0 : Nat → Option JCell} {c : Nat × Nat} {k122G : Nat → Int32 → Int32 → Int32 → JMem → Option JMem} {k122H : Int32 → Int32 → Int32 → MT → Option MT} (i122 : ∀ (v1 : Int32) (v2 : Int32) (v3 : Int32) (T : MT), k122G m v1 v2 v3 (ov m ad T h0, c) = Option.map (mV m ad h0 c) (k122H v1 v2 v3 T)) : ∀ (n : Nat), ∀ (v1 : Int32) (v2 : Int32) (v3 : Int32) (v4 : Int32) (v5 : Int32) (v6 : Int32) (T : MT), g_R_keeps_157 N B k122G n m v1 v2 v3 v4 v5 v6 (ov m ad T h0, c) = Option.map (mV m ad h0 c) (h_R_keeps_157 N k122H n v1 v2 v3 v4 v5 v6 T) := by
  intro n
  induction n with
  | zero => intros; rfl
  | succ n ih =>
    intro v1 v2 v3 v4 v5 v6 T
    simp only [jlet, g_R_keeps_157, h_R_keeps_157, obd_some, obd_assoc, jgd_true, ov_job, map_obd, map_tbd2, map_ite, map_jlet, map_someV, map_someF, obd_mapV, jbd2_mapF, jbd2_some, tbd2_some, ov_g_10, ov_g_13, ov_g_14, ov_g_15, ov_g_46, ov_g_47, ov_g_48, ov_g_53, ov_a_10 hA, ov_s_10 hA, ov_a_13 hA, ov_s_13 hA, ov_a_14 hA, ov_s_14 hA, ov_a_15 hA, ov_s_15 hA, ov_a_46 hA, ov_s_46 hA, ov_a_47 hA, ov_s_47 hA, ov_a_48 hA, ov_s_48 hA, ov_a_53 hA, ov_s_53 hA, i122, ih]
set_option maxRecDepth 10000 in
set_option maxHeartbeats 4000000 in
theorem e_R_keeps_122 {N B m : Nat} {ad : Nat → Nat} (hA : MA B m ad) {h0 : Nat → Option JCell} {c : Nat × Nat} : ∀ (n : Nat), ∀ (v1 : Int32) (v2 : Int32) (v3 : Int32) (T : MT), g_R_keeps_122 N B n m v1 v2 v3 (ov m ad T h0, c) = Option.map (mV m ad h0 c) (h_R_keeps_122 N n v1 v2 v3 T) := by
  intro n
  induction n with
  | zero => intros; rfl
  | succ n ih =>
    intro v1 v2 v3 T
    simp only [jlet, g_R_keeps_122, h_R_keeps_122, obd_some, obd_assoc, jgd_true, ov_job, map_obd, map_tbd2, map_ite, map_jlet, map_someV, map_someF, obd_mapV, jbd2_mapF, jbd2_some, tbd2_some, ov_g_17, ov_g_18, ov_a_17 hA, ov_a_18 hA, e_R_keeps_157 hA (k122G := g_R_keeps_122 N B n) (k122H := h_R_keeps_122 N n) ih]
set_option maxRecDepth 10000 in
set_option maxHeartbeats 4000000 in
theorem e_R_keeps_38 {N B m : Nat} {ad : Nat → Nat} (hA : MA B m ad) {h0 : Nat → Option JCell} {c : Nat × Nat} : ∀ (n : Nat), ∀ (v1 : Int32) (v2 : Int32) (v3 : Int32) (T : MT), g_R_keeps_38 N B n m v1 v2 v3 (ov m ad T h0, c) = Option.map (mV m ad h0 c) (h_R_keeps_38 N n v1 v2 v3 T) := by
  intro n
  induction n with
  | zero => intros; rfl
  | succ n ih =>
    intro v1 v2 v3 T
    simp only [jlet, g_R_keeps_38, h_R_keeps_38, obd_some, obd_assoc, jgd_true, ov_job, map_obd, map_tbd2, map_ite, map_jlet, map_someV, map_someF, obd_mapV, jbd2_mapF, jbd2_some, tbd2_some, ov_g_20, ov_a_20 hA, e_R_keeps_63 hA (k38G := g_R_keeps_38 N B n) (k38H := h_R_keeps_38 N n) ih, e_R_keeps_122 hA]
set_option maxRecDepth 10000 in
set_option maxHeartbeats 4000000 in
theorem e_R_keeps {N B m : Nat} {ad : Nat → Nat} (hA : MA B m ad) {h0 : Nat → Option JCell} {c : Nat × Nat} : ∀ (v1 : Int32) (v2 : Int32) (T : MT), g_R_keeps N B m v1 v2 (ov m ad T h0, c) = Option.map (mV m ad h0 c) (h_R_keeps N v1 v2 T) := by
  intro v1 v2 T
  simp only [jlet, g_R_keeps, h_R_keeps, obd_some, obd_assoc, jgd_true, ov_job, map_obd, map_tbd2, map_ite, map_jlet, map_someV, map_someF, obd_mapV, jbd2_mapF, jbd2_some, tbd2_some, ov_g_17, ov_g_20, ov_g_51, ov_g_52, ov_a_17 hA, ov_s_17 hA, ov_a_20 hA, ov_s_20 hA, ov_a_51 hA, ov_s_51 hA, ov_a_52 hA, ov_s_52 hA, e_R_keeps_38 hA]
set_option maxRecDepth 10000 in
set_option maxHeartbeats 4000000 in
theorem e_R_keep_36 {N B m : Nat} {ad : Nat → Nat} (hA : MA B m ad) {h0 : Nat → Option JCell} {c : Nat × Nat} : ∀ (n : Nat), ∀ (v2 : Int32) (T : MT), g_R_keep_36 N B n m v2 (ov m ad T h0, c) = Option.map (mF m ad h0 c) (h_R_keep_36 N n v2 T) := by
  intro n
  induction n with
  | zero => intros; rfl
  | succ n ih =>
    intro v2 T
    simp only [jlet, g_R_keep_36, h_R_keep_36, obd_some, obd_assoc, jgd_true, ov_job, map_obd, map_tbd2, map_ite, map_jlet, map_someV, map_someF, obd_mapV, jbd2_mapF, jbd2_some, tbd2_some, ov_g_42, ov_g_43, ov_g_44, ov_p_44 hA, ov_a_43 hA, e_R_keeps hA, ih]
set_option maxRecDepth 10000 in
set_option maxHeartbeats 4000000 in
theorem e_R_keep {N B m : Nat} {ad : Nat → Nat} (hA : MA B m ad) {h0 : Nat → Option JCell} {c : Nat × Nat} : ∀ (v1 : Int32) (T : MT), g_R_keep N B m v1 (ov m ad T h0, c) = Option.map (mF m ad h0 c) (h_R_keep N v1 T) := by
  intro v1 T
  simp only [jlet, g_R_keep, h_R_keep, obd_some, obd_assoc, jgd_true, ov_job, map_obd, map_tbd2, map_ite, map_jlet, map_someV, map_someF, obd_mapV, jbd2_mapF, jbd2_some, tbd2_some, ov_g_44, ov_g_45, ov_s_45 hA, e_R_isChain hA, e_R_trees hA, e_R_keep_36 hA]
set_option maxRecDepth 10000 in
set_option maxHeartbeats 4000000 in
theorem e_R_backs_29 {N B m : Nat} {ad : Nat → Nat} (hA : MA B m ad) {h0 : Nat → Option JCell} {c : Nat × Nat} {k4G : Nat → Int32 → Int32 → Int32 → JMem → Option JMem} {k4H : Int32 → Int32 → Int32 → MT → Option MT} (i4 : ∀ (v1 : Int32) (v2 : Int32) (v3 : Int32) (T : MT), k4G m v1 v2 v3 (ov m ad T h0, c) = Option.map (mV m ad h0 c) (k4H v1 v2 v3 T)) : ∀ (n : Nat), ∀ (v1 : Int32) (v2 : Int32) (v3 : Int32) (v4 : Int32) (v5 : Int32) (T : MT), g_R_backs_29 N B k4G n m v1 v2 v3 v4 v5 (ov m ad T h0, c) = Option.map (mV m ad h0 c) (h_R_backs_29 N k4H n v1 v2 v3 v4 v5 T) := by
  intro n
  induction n with
  | zero => intros; rfl
  | succ n ih =>
    intro v1 v2 v3 v4 v5 T
    simp only [jlet, g_R_backs_29, h_R_backs_29, obd_some, obd_assoc, jgd_true, ov_job, map_obd, map_tbd2, map_ite, map_jlet, map_someV, map_someF, obd_mapV, jbd2_mapF, jbd2_some, tbd2_some, ov_g_25, ov_g_26, ov_g_49, ov_g_50, ov_a_25 hA, ov_s_25 hA, ov_a_26 hA, ov_s_26 hA, ov_a_49 hA, ov_s_49 hA, ov_a_50 hA, ov_s_50 hA, i4, ih]
set_option maxRecDepth 10000 in
set_option maxHeartbeats 4000000 in
theorem e_R_backs_123 {N B m : Nat} {ad : Nat → Nat} (hA : MA B m ad) {h0 : Nat → Option JCell} {c : Nat × Nat} {k88G : Nat → Int32 → Int32 → Int32 → JMem → Option JMem} {k88H : Int32 → Int32 → Int32 → MT → Option MT} (i88 : ∀ (v1 : Int32) (v2 : Int32) (v3 : Int32) (T : MT), k88G m v1 v2 v3 (ov m ad T h0, c) = Option.map (mV m ad h0 c) (k88H v1 v2 v3 T)) : ∀ (n : Nat), ∀ (v1 : Int32) (v2 : Int32) (v3 : Int32) (v4 : Int32) (v5 : Int32) (v6 : Int32) (T : MT), g_R_backs_123 N B k88G n m v1 v2 v3 v4 v5 v6 (ov m ad T h0, c) = Option.map (mV m ad h0 c) (h_R_backs_123 N k88H n v1 v2 v3 v4 v5 v6 T) := by
  intro n
  induction n with
  | zero => intros; rfl
  | succ n ih =>
    intro v1 v2 v3 v4 v5 v6 T
    simp only [jlet, g_R_backs_123, h_R_backs_123, obd_some, obd_assoc, jgd_true, ov_job, map_obd, map_tbd2, map_ite, map_jlet, map_someV, map_someF, obd_mapV, jbd2_mapF, jbd2_some, tbd2_some, ov_g_13, ov_g_14, ov_g_15, ov_g_46, ov_g_47, ov_g_48, ov_a_13 hA, ov_s_13 hA, ov_a_14 hA, ov_s_14 hA, ov_a_15 hA, ov_s_15 hA, ov_a_46 hA, ov_s_46 hA, ov_a_47 hA, ov_s_47 hA, ov_a_48 hA, ov_s_48 hA, i88, ih]
set_option maxRecDepth 10000 in
set_option maxHeartbeats 4000000 in
theorem e_R_backs_88 {N B m : Nat} {ad : Nat → Nat} (hA : MA B m ad) {h0 : Nat → Option JCell} {c : Nat × Nat} : ∀ (n : Nat), ∀ (v1 : Int32) (v2 : Int32) (v3 : Int32) (T : MT), g_R_backs_88 N B n m v1 v2 v3 (ov m ad T h0, c) = Option.map (mV m ad h0 c) (h_R_backs_88 N n v1 v2 v3 T) := by
  intro n
  induction n with
  | zero => intros; rfl
  | succ n ih =>
    intro v1 v2 v3 T
    simp only [jlet, g_R_backs_88, h_R_backs_88, obd_some, obd_assoc, jgd_true, ov_job, map_obd, map_tbd2, map_ite, map_jlet, map_someV, map_someF, obd_mapV, jbd2_mapF, jbd2_some, tbd2_some, ov_g_17, ov_g_18, ov_a_17 hA, ov_a_18 hA, e_R_backs_123 hA (k88G := g_R_backs_88 N B n) (k88H := h_R_backs_88 N n) ih]
set_option maxRecDepth 10000 in
set_option maxHeartbeats 4000000 in
theorem e_R_backs_4 {N B m : Nat} {ad : Nat → Nat} (hA : MA B m ad) {h0 : Nat → Option JCell} {c : Nat × Nat} : ∀ (n : Nat), ∀ (v1 : Int32) (v2 : Int32) (v3 : Int32) (T : MT), g_R_backs_4 N B n m v1 v2 v3 (ov m ad T h0, c) = Option.map (mV m ad h0 c) (h_R_backs_4 N n v1 v2 v3 T) := by
  intro n
  induction n with
  | zero => intros; rfl
  | succ n ih =>
    intro v1 v2 v3 T
    simp only [jlet, g_R_backs_4, h_R_backs_4, obd_some, obd_assoc, jgd_true, ov_job, map_obd, map_tbd2, map_ite, map_jlet, map_someV, map_someF, obd_mapV, jbd2_mapF, jbd2_some, tbd2_some, ov_g_20, ov_a_20 hA, e_R_backs_29 hA (k4G := g_R_backs_4 N B n) (k4H := h_R_backs_4 N n) ih, e_R_backs_88 hA]
set_option maxRecDepth 10000 in
set_option maxHeartbeats 4000000 in
theorem e_R_backs {N B m : Nat} {ad : Nat → Nat} (hA : MA B m ad) {h0 : Nat → Option JCell} {c : Nat × Nat} : ∀ (v1 : Int32) (v2 : Int32) (T : MT), g_R_backs N B m v1 v2 (ov m ad T h0, c) = Option.map (mV m ad h0 c) (h_R_backs N v1 v2 T) := by
  intro v1 v2 T
  simp only [jlet, g_R_backs, h_R_backs, obd_some, obd_assoc, jgd_true, ov_job, map_obd, map_tbd2, map_ite, map_jlet, map_someV, map_someF, obd_mapV, jbd2_mapF, jbd2_some, tbd2_some, e_R_backs_4 hA]
set_option maxRecDepth 10000 in
set_option maxHeartbeats 4000000 in
theorem e_R_fits_44 {N B m : Nat} {ad : Nat → Nat} (hA : MA B m ad) {h0 : Nat → Option JCell} : ∀ (n : Nat), ∀ (v1 : Int32) (v2 : Int32) (v3 : Int32) (T : MT), g_R_fits_44 N n m v1 v2 v3 (ov m ad T h0) = h_R_fits_44 N n v1 v2 v3 T := by
  intro n
  induction n with
  | zero => intros; rfl
  | succ n ih =>
    intro v1 v2 v3 T
    simp only [jlet, g_R_fits_44, h_R_fits_44, obd_some, obd_assoc, jgd_true, ov_job, map_obd, map_tbd2, map_ite, map_jlet, map_someV, map_someF, obd_mapV, jbd2_mapF, jbd2_some, tbd2_some, ov_g_10, ov_g_17, ov_g_18, ov_g_53, ov_a_10 hA, ov_a_17 hA, ov_a_18 hA, ov_a_53 hA, ih]
set_option maxRecDepth 10000 in
set_option maxHeartbeats 4000000 in
theorem e_R_fits {N B m : Nat} {ad : Nat → Nat} (hA : MA B m ad) {h0 : Nat → Option JCell} : ∀ (v1 : Int32) (v2 : Int32) (T : MT), g_R_fits N m v1 v2 (ov m ad T h0) = h_R_fits N v1 v2 T := by
  intro v1 v2 T
  simp only [jlet, g_R_fits, h_R_fits, obd_some, obd_assoc, jgd_true, ov_job, map_obd, map_tbd2, map_ite, map_jlet, map_someV, map_someF, obd_mapV, jbd2_mapF, jbd2_some, tbd2_some, ov_g_17, ov_g_20, ov_g_51, ov_g_52, ov_a_17 hA, ov_a_20 hA, ov_a_51 hA, ov_a_52 hA, e_R_fits_44 hA]
set_option maxRecDepth 10000 in
set_option maxHeartbeats 4000000 in
theorem e_R_isKept_28 {N B m : Nat} {ad : Nat → Nat} (hA : MA B m ad) {h0 : Nat → Option JCell} {c : Nat × Nat} : ∀ (n : Nat), ∀ (v1 : Int32) (v2 : Int32) (T : MT), g_R_isKept_28 N B n m v1 v2 (ov m ad T h0, c) = Option.map (mF m ad h0 c) (h_R_isKept_28 N n v1 v2 T) := by
  intro n
  induction n with
  | zero => intros; rfl
  | succ n ih =>
    intro v1 v2 T
    simp only [jlet, g_R_isKept_28, h_R_isKept_28, obd_some, obd_assoc, jgd_true, ov_job, map_obd, map_tbd2, map_ite, map_jlet, map_someV, map_someF, obd_mapV, jbd2_mapF, jbd2_some, tbd2_some, ov_g_42, ov_g_43, ov_a_43 hA, e_R_fits hA, ih]
set_option maxRecDepth 10000 in
set_option maxHeartbeats 4000000 in
theorem e_R_isKept {N B m : Nat} {ad : Nat → Nat} (hA : MA B m ad) {h0 : Nat → Option JCell} {c : Nat × Nat} : ∀ (v1 : Int32) (T : MT), g_R_isKept N B m v1 (ov m ad T h0, c) = Option.map (mF m ad h0 c) (h_R_isKept N v1 T) := by
  intro v1 T
  simp only [jlet, g_R_isKept, h_R_isKept, obd_some, obd_assoc, jgd_true, ov_job, map_obd, map_tbd2, map_ite, map_jlet, map_someV, map_someF, obd_mapV, jbd2_mapF, jbd2_some, tbd2_some, ov_g_44, ov_g_45, ov_a_45 hA, e_R_trees hA, e_R_isKept_28 hA]
set_option maxRecDepth 10000 in
set_option maxHeartbeats 4000000 in
theorem e_R_back_12 {N B m : Nat} {ad : Nat → Nat} (hA : MA B m ad) {h0 : Nat → Option JCell} {c : Nat × Nat} : ∀ (n : Nat), ∀ (v1 : Int32) (v2 : Int32) (T : MT), g_R_back_12 N B n m v1 v2 (ov m ad T h0, c) = Option.map (mF m ad h0 c) (h_R_back_12 N n v1 v2 T) := by
  intro n
  induction n with
  | zero => intros; rfl
  | succ n ih =>
    intro v1 v2 T
    simp only [jlet, g_R_back_12, h_R_back_12, obd_some, obd_assoc, jgd_true, ov_job, map_obd, map_tbd2, map_ite, map_jlet, map_someV, map_someF, obd_mapV, jbd2_mapF, jbd2_some, tbd2_some, ov_g_42, ov_g_43, ov_a_43 hA, e_R_backs hA, ih]
set_option maxRecDepth 10000 in
set_option maxHeartbeats 4000000 in
theorem e_R_back {N B m : Nat} {ad : Nat → Nat} (hA : MA B m ad) {h0 : Nat → Option JCell} {c : Nat × Nat} : ∀ (v1 : Int32) (T : MT), g_R_back N B m v1 (ov m ad T h0, c) = Option.map (mF m ad h0 c) (h_R_back N v1 T) := by
  intro v1 T
  simp only [jlet, g_R_back, h_R_back, obd_some, obd_assoc, jgd_true, ov_job, map_obd, map_tbd2, map_ite, map_jlet, map_someV, map_someF, obd_mapV, jbd2_mapF, jbd2_some, tbd2_some, e_R_isKept hA, e_R_back_12 hA]
set_option maxRecDepth 10000 in
set_option maxHeartbeats 4000000 in
theorem e_R_alike_37 {N B m : Nat} {ad : Nat → Nat} (hA : MA B m ad) {h0 : Nat → Option JCell} {k4G : Nat → Int32 → Int32 → Int32 → (Nat → Option JCell) → Option Bool} {k4H : Int32 → Int32 → Int32 → MT → Option Bool} (i4 : ∀ (v1 : Int32) (v2 : Int32) (v3 : Int32) (T : MT), k4G m v1 v2 v3 (ov m ad T h0) = k4H v1 v2 v3 T) : ∀ (n : Nat), ∀ (v1 : Int32) (v2 : Int32) (v3 : Int32) (v4 : Int32) (v5 : Int32) (v6 : Int32) (T : MT), g_R_alike_37 N k4G n m v1 v2 v3 v4 v5 v6 (ov m ad T h0) = h_R_alike_37 N k4H n v1 v2 v3 v4 v5 v6 T := by
  intro n
  induction n with
  | zero => intros; rfl
  | succ n ih =>
    intro v1 v2 v3 v4 v5 v6 T
    simp only [jlet, g_R_alike_37, h_R_alike_37, obd_some, obd_assoc, jgd_true, ov_job, map_obd, map_tbd2, map_ite, map_jlet, map_someV, map_someF, obd_mapV, jbd2_mapF, jbd2_some, tbd2_some, ov_g_25, ov_g_26, ov_g_49, ov_g_50, ov_a_25 hA, ov_a_26 hA, ov_a_49 hA, ov_a_50 hA, i4, ih]
set_option maxRecDepth 10000 in
set_option maxHeartbeats 4000000 in
theorem e_R_alike_277 {N B m : Nat} {ad : Nat → Nat} (hA : MA B m ad) {h0 : Nat → Option JCell} {k118G : Nat → Int32 → Int32 → Int32 → (Nat → Option JCell) → Option Bool} {k118H : Int32 → Int32 → Int32 → MT → Option Bool} (i118 : ∀ (v1 : Int32) (v2 : Int32) (v3 : Int32) (T : MT), k118G m v1 v2 v3 (ov m ad T h0) = k118H v1 v2 v3 T) {k207G : Nat → Int32 → Int32 → Int32 → Int32 → Int32 → Bool → Int32 → Int32 → (Nat → Option JCell) → Option Bool} {k207H : Int32 → Int32 → Int32 → Int32 → Int32 → Bool → Int32 → Int32 → MT → Option Bool} (i207 : ∀ (v1 : Int32) (v2 : Int32) (v3 : Int32) (v4 : Int32) (v5 : Int32) (v6 : Bool) (v7 : Int32) (v8 : Int32) (T : MT), k207G m v1 v2 v3 v4 v5 v6 v7 v8 (ov m ad T h0) = k207H v1 v2 v3 v4 v5 v6 v7 v8 T) : ∀ (v1 : Int32) (v2 : Int32) (v3 : Int32) (v4 : Int32) (v5 : Int32) (v6 : Bool) (v7 : Int32) (v8 : Int32) (v9 : UInt64) (s0 : Int32) (s1 : Int32) (T : MT), g_R_alike_277 N k118G k207G m v1 v2 v3 v4 v5 v6 v7 v8 v9 s0 s1 (some (ad 46)) (ov m ad T h0) = h_R_alike_277 N k118H k207H v1 v2 v3 v4 v5 v6 v7 v8 v9 s0 s1 T := by
  intro v1 v2 v3 v4 v5 v6 v7 v8 v9 s0 s1 T
  simp only [jlet, g_R_alike_277, h_R_alike_277, obd_some, obd_assoc, jgd_true, ov_job, map_obd, map_tbd2, map_ite, map_jlet, map_someV, map_someF, obd_mapV, jbd2_mapF, jbd2_some, tbd2_some, ov_a_46 hA, i207]
set_option maxRecDepth 10000 in
set_option maxHeartbeats 4000000 in
theorem e_R_alike_240 {N B m : Nat} {ad : Nat → Nat} (hA : MA B m ad) {h0 : Nat → Option JCell} {k118G : Nat → Int32 → Int32 → Int32 → (Nat → Option JCell) → Option Bool} {k118H : Int32 → Int32 → Int32 → MT → Option Bool} (i118 : ∀ (v1 : Int32) (v2 : Int32) (v3 : Int32) (T : MT), k118G m v1 v2 v3 (ov m ad T h0) = k118H v1 v2 v3 T) {k207G : Nat → Int32 → Int32 → Int32 → Int32 → Int32 → Bool → Int32 → Int32 → (Nat → Option JCell) → Option Bool} {k207H : Int32 → Int32 → Int32 → Int32 → Int32 → Bool → Int32 → Int32 → MT → Option Bool} (i207 : ∀ (v1 : Int32) (v2 : Int32) (v3 : Int32) (v4 : Int32) (v5 : Int32) (v6 : Bool) (v7 : Int32) (v8 : Int32) (T : MT), k207G m v1 v2 v3 v4 v5 v6 v7 v8 (ov m ad T h0) = k207H v1 v2 v3 v4 v5 v6 v7 v8 T) : ∀ (v1 : Int32) (v2 : Int32) (v3 : Int32) (v4 : Int32) (v5 : Int32) (v6 : Bool) (v7 : Int32) (v8 : Int32) (s0 : Int32) (s1 : Int32) (T : MT), g_R_alike_240 N k118G k207G m v1 v2 v3 v4 v5 v6 v7 v8 s0 s1 m (ov m ad T h0) = h_R_alike_240 N k118H k207H v1 v2 v3 v4 v5 v6 v7 v8 s0 s1 T := by
  intro v1 v2 v3 v4 v5 v6 v7 v8 s0 s1 T
  simp only [jlet, g_R_alike_240, h_R_alike_240, obd_some, obd_assoc, jgd_true, ov_job, map_obd, map_tbd2, map_ite, map_jlet, map_someV, map_someF, obd_mapV, jbd2_mapF, jbd2_some, tbd2_some, ov_g_46, ov_g_47, ov_a_46 hA, ov_a_47 hA, e_R_st hA, e_R_alike_277 hA (k118G := k118G) (k118H := k118H) i118 (k207G := k207G) (k207H := k207H) i207]
set_option maxRecDepth 10000 in
set_option maxHeartbeats 4000000 in
theorem e_R_alike_207 {N B m : Nat} {ad : Nat → Nat} (hA : MA B m ad) {h0 : Nat → Option JCell} {k118G : Nat → Int32 → Int32 → Int32 → (Nat → Option JCell) → Option Bool} {k118H : Int32 → Int32 → Int32 → MT → Option Bool} (i118 : ∀ (v1 : Int32) (v2 : Int32) (v3 : Int32) (T : MT), k118G m v1 v2 v3 (ov m ad T h0) = k118H v1 v2 v3 T) : ∀ (n : Nat), ∀ (v1 : Int32) (v2 : Int32) (v3 : Int32) (v4 : Int32) (v5 : Int32) (v6 : Bool) (v7 : Int32) (v8 : Int32) (T : MT), g_R_alike_207 N k118G n m v1 v2 v3 v4 v5 v6 v7 v8 (ov m ad T h0) = h_R_alike_207 N k118H n v1 v2 v3 v4 v5 v6 v7 v8 T := by
  intro n
  induction n with
  | zero => intros; rfl
  | succ n ih =>
    intro v1 v2 v3 v4 v5 v6 v7 v8 T
    simp only [jlet, g_R_alike_207, h_R_alike_207, obd_some, obd_assoc, jgd_true, ov_job, map_obd, map_tbd2, map_ite, map_jlet, map_someV, map_someF, obd_mapV, jbd2_mapF, jbd2_some, tbd2_some, ov_g_14, ov_a_14 hA, i118, e_R_alike_240 hA (k118G := k118G) (k118H := k118H) i118 (k207G := g_R_alike_207 N k118G n) (k207H := h_R_alike_207 N k118H n) ih]
set_option maxRecDepth 10000 in
set_option maxHeartbeats 4000000 in
theorem e_R_alike_202 {N B m : Nat} {ad : Nat → Nat} (hA : MA B m ad) {h0 : Nat → Option JCell} {k118G : Nat → Int32 → Int32 → Int32 → (Nat → Option JCell) → Option Bool} {k118H : Int32 → Int32 → Int32 → MT → Option Bool} (i118 : ∀ (v1 : Int32) (v2 : Int32) (v3 : Int32) (T : MT), k118G m v1 v2 v3 (ov m ad T h0) = k118H v1 v2 v3 T) : ∀ (v1 : Int32) (v2 : Int32) (v3 : Int32) (v4 : Int32) (v5 : Int32) (v6 : Bool) (s0 : Int32) (T : MT), g_R_alike_202 N k118G m v1 v2 v3 v4 v5 v6 s0 (ov m ad T h0) = h_R_alike_202 N k118H v1 v2 v3 v4 v5 v6 s0 T := by
  intro v1 v2 v3 v4 v5 v6 s0 T
  simp only [jlet, g_R_alike_202, h_R_alike_202, obd_some, obd_assoc, jgd_true, ov_job, map_obd, map_tbd2, map_ite, map_jlet, map_someV, map_someF, obd_mapV, jbd2_mapF, jbd2_some, tbd2_some, e_R_alike_207 hA (k118G := k118G) (k118H := k118H) i118]
set_option maxRecDepth 10000 in
set_option maxHeartbeats 4000000 in
theorem e_R_alike_118 {N B m : Nat} {ad : Nat → Nat} (hA : MA B m ad) {h0 : Nat → Option JCell} : ∀ (n : Nat), ∀ (v1 : Int32) (v2 : Int32) (v3 : Int32) (T : MT), g_R_alike_118 N n m v1 v2 v3 (ov m ad T h0) = h_R_alike_118 N n v1 v2 v3 T := by
  intro n
  induction n with
  | zero => intros; rfl
  | succ n ih =>
    intro v1 v2 v3 T
    simp only [jlet, g_R_alike_118, h_R_alike_118, obd_some, obd_assoc, jgd_true, ov_job, map_obd, map_tbd2, map_ite, map_jlet, map_someV, map_someF, obd_mapV, jbd2_mapF, jbd2_some, tbd2_some, ov_g_15, ov_g_17, ov_g_18, ov_g_2, ov_g_4, ov_g_48, ov_a_2 hA, ov_a_4 hA, ov_a_15 hA, ov_a_17 hA, ov_a_18 hA, ov_a_48 hA, e_R_alike_202 hA (k118G := g_R_alike_118 N n) (k118H := h_R_alike_118 N n) ih]
set_option maxRecDepth 10000 in
set_option maxHeartbeats 4000000 in
theorem e_R_alike_4 {N B m : Nat} {ad : Nat → Nat} (hA : MA B m ad) {h0 : Nat → Option JCell} : ∀ (n : Nat), ∀ (v1 : Int32) (v2 : Int32) (v3 : Int32) (T : MT), g_R_alike_4 N n m v1 v2 v3 (ov m ad T h0) = h_R_alike_4 N n v1 v2 v3 T := by
  intro n
  induction n with
  | zero => intros; rfl
  | succ n ih =>
    intro v1 v2 v3 T
    simp only [jlet, g_R_alike_4, h_R_alike_4, obd_some, obd_assoc, jgd_true, ov_job, map_obd, map_tbd2, map_ite, map_jlet, map_someV, map_someF, obd_mapV, jbd2_mapF, jbd2_some, tbd2_some, ov_g_20, ov_g_23, ov_a_20 hA, ov_a_23 hA, e_R_alike_37 hA (k4G := g_R_alike_4 N n) (k4H := h_R_alike_4 N n) ih, e_R_alike_118 hA]
set_option maxRecDepth 10000 in
set_option maxHeartbeats 4000000 in
theorem e_R_alike {N B m : Nat} {ad : Nat → Nat} (hA : MA B m ad) {h0 : Nat → Option JCell} : ∀ (v1 : Int32) (v2 : Int32) (T : MT), g_R_alike N m v1 v2 (ov m ad T h0) = h_R_alike N v1 v2 T := by
  intro v1 v2 T
  simp only [jlet, g_R_alike, h_R_alike, obd_some, obd_assoc, jgd_true, ov_job, map_obd, map_tbd2, map_ite, map_jlet, map_someV, map_someF, obd_mapV, jbd2_mapF, jbd2_some, tbd2_some, e_R_alike_4 hA]
set_option maxRecDepth 10000 in
set_option maxHeartbeats 4000000 in
theorem e_R_same_12 {N B m : Nat} {ad : Nat → Nat} (hA : MA B m ad) {h0 : Nat → Option JCell} {c : Nat × Nat} : ∀ (n : Nat), ∀ (v1 : Int32) (v2 : Int32) (T : MT), g_R_same_12 N B n m v1 v2 (ov m ad T h0, c) = Option.map (mF m ad h0 c) (h_R_same_12 N n v1 v2 T) := by
  intro n
  induction n with
  | zero => intros; rfl
  | succ n ih =>
    intro v1 v2 T
    simp only [jlet, g_R_same_12, h_R_same_12, obd_some, obd_assoc, jgd_true, ov_job, map_obd, map_tbd2, map_ite, map_jlet, map_someV, map_someF, obd_mapV, jbd2_mapF, jbd2_some, tbd2_some, ov_g_42, ov_g_43, ov_a_43 hA, e_R_alike hA, ih]
set_option maxRecDepth 10000 in
set_option maxHeartbeats 4000000 in
theorem e_R_same {N B m : Nat} {ad : Nat → Nat} (hA : MA B m ad) {h0 : Nat → Option JCell} {c : Nat × Nat} : ∀ (v1 : Int32) (T : MT), g_R_same N B m v1 (ov m ad T h0, c) = Option.map (mF m ad h0 c) (h_R_same N v1 T) := by
  intro v1 T
  simp only [jlet, g_R_same, h_R_same, obd_some, obd_assoc, jgd_true, ov_job, map_obd, map_tbd2, map_ite, map_jlet, map_someV, map_someF, obd_mapV, jbd2_mapF, jbd2_some, tbd2_some, e_R_isKept hA, e_R_same_12 hA]
set_option maxRecDepth 10000 in
set_option maxHeartbeats 4000000 in
theorem e_R_poles_112 {B m : Nat} {ad : Nat → Nat} (hA : MA B m ad) {h0 : Nat → Option JCell} : ∀ (v2 : UInt64) (v4 : UInt64) (s0 : UInt64) (T : MT), g_R_poles_112 m v2 v4 s0 (ov m ad T h0) = h_R_poles_112 v2 v4 s0 T := by
  intro v2 v4 s0 T
  simp only [jlet, g_R_poles_112, h_R_poles_112, obd_some, obd_assoc, jgd_true, ov_job, map_obd, map_tbd2, map_ite, map_jlet, map_someV, map_someF, obd_mapV, jbd2_mapF, jbd2_some, tbd2_some, g_R_sizeOf]
set_option maxRecDepth 10000 in
set_option maxHeartbeats 4000000 in
theorem e_R_poles_86 {B m : Nat} {ad : Nat → Nat} (hA : MA B m ad) {h0 : Nat → Option JCell} : ∀ (v1 : Int32) (v2 : UInt64) (s0 : UInt64) (T : MT), g_R_poles_86 m v1 v2 s0 (ov m ad T h0) = h_R_poles_86 v1 v2 s0 T := by
  intro v1 v2 s0 T
  simp only [jlet, g_R_poles_86, h_R_poles_86, obd_some, obd_assoc, jgd_true, ov_job, map_obd, map_tbd2, map_ite, map_jlet, map_someV, map_someF, obd_mapV, jbd2_mapF, jbd2_some, tbd2_some, ov_g_2, ov_a_2 hA, e_R_c hA, e_R_poles_112 hA]
set_option maxRecDepth 10000 in
set_option maxHeartbeats 4000000 in
theorem e_R_poles_41 {B m : Nat} {ad : Nat → Nat} (hA : MA B m ad) {h0 : Nat → Option JCell} : ∀ (v1 : Int32) (s0 : UInt64) (T : MT), g_R_poles_41 m v1 s0 (ov m ad T h0) = h_R_poles_41 v1 s0 T := by
  intro v1 s0 T
  simp only [jlet, g_R_poles_41, h_R_poles_41, obd_some, obd_assoc, jgd_true, ov_job, map_obd, map_tbd2, map_ite, map_jlet, map_someV, map_someF, obd_mapV, jbd2_mapF, jbd2_some, tbd2_some, ov_g_2, ov_a_2 hA, e_R_c hA, e_R_poles_86 hA]
set_option maxRecDepth 10000 in
set_option maxHeartbeats 4000000 in
theorem e_R_poles {B m : Nat} {ad : Nat → Nat} (hA : MA B m ad) {h0 : Nat → Option JCell} : ∀ (v1 : Int32) (T : MT), g_R_poles m v1 (ov m ad T h0) = h_R_poles v1 T := by
  intro v1 T
  simp only [jlet, g_R_poles, h_R_poles, obd_some, obd_assoc, jgd_true, ov_job, map_obd, map_tbd2, map_ite, map_jlet, map_someV, map_someF, obd_mapV, jbd2_mapF, jbd2_some, tbd2_some, ov_g_2, ov_g_3, ov_a_2 hA, ov_a_3 hA, e_R_isSection hA, e_R_poles_41 hA]
set_option maxRecDepth 10000 in
set_option maxHeartbeats 4000000 in
theorem e_R_finds_98 {N B m : Nat} {ad : Nat → Nat} (hA : MA B m ad) {h0 : Nat → Option JCell} {c : Nat × Nat} {k7G : Nat → Int32 → Int32 → JMem → Option JMem} {k7H : Int32 → Int32 → MT → Option MT} (i7 : ∀ (v1 : Int32) (v2 : Int32) (T : MT), k7G m v1 v2 (ov m ad T h0, c) = Option.map (mV m ad h0 c) (k7H v1 v2 T)) : ∀ (v1 : Int32) (v2 : Int32) (s0 : Int32) (s1 : Int32) (T : MT), g_R_finds_98 N B k7G m v1 v2 s0 s1 (some (ad 56)) (ov m ad T h0, c) = Option.map (mV m ad h0 c) (h_R_finds_98 N k7H v1 v2 s0 s1 T) := by
  intro v1 v2 s0 s1 T
  simp only [jlet, g_R_finds_98, h_R_finds_98, obd_some, obd_assoc, jgd_true, ov_job, map_obd, map_tbd2, map_ite, map_jlet, map_someV, map_someF, obd_mapV, jbd2_mapF, jbd2_some, tbd2_some, ov_g_57, ov_s_56 hA, ov_s_57 hA, i7]
set_option maxRecDepth 10000 in
set_option maxHeartbeats 4000000 in
theorem e_R_finds_56 {N B m : Nat} {ad : Nat → Nat} (hA : MA B m ad) {h0 : Nat → Option JCell} {c : Nat × Nat} {k7G : Nat → Int32 → Int32 → JMem → Option JMem} {k7H : Int32 → Int32 → MT → Option MT} (i7 : ∀ (v1 : Int32) (v2 : Int32) (T : MT), k7G m v1 v2 (ov m ad T h0, c) = Option.map (mV m ad h0 c) (k7H v1 v2 T)) : ∀ (v1 : Int32) (v2 : Int32) (s0 : Int64) (T : MT), g_R_finds_56 N B k7G m v1 v2 s0 (ov m ad T h0, c) = Option.map (mV m ad h0 c) (h_R_finds_56 N k7H v1 v2 s0 T) := by
  intro v1 v2 s0 T
  simp only [jlet, g_R_finds_56, h_R_finds_56, obd_some, obd_assoc, jgd_true, ov_job, map_obd, map_tbd2, map_ite, map_jlet, map_someV, map_someF, obd_mapV, jbd2_mapF, jbd2_some, tbd2_some, ov_g_56, ov_g_6, ov_a_6 hA, ov_a_56 hA, e_R_finds_98 hA (k7G := k7G) (k7H := k7H) i7]
set_option maxRecDepth 10000 in
set_option maxHeartbeats 4000000 in
theorem e_R_finds_238 {N B m : Nat} {ad : Nat → Nat} (hA : MA B m ad) {h0 : Nat → Option JCell} {c : Nat × Nat} {k114G : Nat → Int32 → JMem → Option JMem} {k114H : Int32 → MT → Option MT} (i114 : ∀ (v2 : Int32) (T : MT), k114G m v2 (ov m ad T h0, c) = Option.map (mV m ad h0 c) (k114H v2 T)) {k194G : Nat → Int32 → Int32 → Int32 → Int32 → Int32 → Int32 → Bool → JMem → Option JMem} {k194H : Int32 → Int32 → Int32 → Int32 → Int32 → Int32 → Bool → MT → Option MT} (i194 : ∀ (v2 : Int32) (v3 : Int32) (v4 : Int32) (v5 : Int32) (v6 : Int32) (v7 : Int32) (v8 : Bool) (T : MT), k194G m v2 v3 v4 v5 v6 v7 v8 (ov m ad T h0, c) = Option.map (mV m ad h0 c) (k194H v2 v3 v4 v5 v6 v7 v8 T)) : ∀ (v2 : Int32) (v3 : Int32) (v4 : Int32) (v5 : Int32) (v6 : Int32) (v7 : Int32) (s0 : Bool) (T : MT), g_R_finds_238 N B k114G k194G m v2 v3 v4 v5 v6 v7 s0 (ov m ad T h0, c) = Option.map (mV m ad h0 c) (h_R_finds_238 N k114H k194H v2 v3 v4 v5 v6 v7 s0 T) := by
  intro v2 v3 v4 v5 v6 v7 s0 T
  simp only [jlet, g_R_finds_238, h_R_finds_238, obd_some, obd_assoc, jgd_true, ov_job, map_obd, map_tbd2, map_ite, map_jlet, map_someV, map_someF, obd_mapV, jbd2_mapF, jbd2_some, tbd2_some, i194]
set_option maxRecDepth 10000 in
set_option maxHeartbeats 4000000 in
theorem e_R_finds_213 {N B m : Nat} {ad : Nat → Nat} (hA : MA B m ad) {h0 : Nat → Option JCell} {c : Nat × Nat} {k114G : Nat → Int32 → JMem → Option JMem} {k114H : Int32 → MT → Option MT} (i114 : ∀ (v2 : Int32) (T : MT), k114G m v2 (ov m ad T h0, c) = Option.map (mV m ad h0 c) (k114H v2 T)) {k194G : Nat → Int32 → Int32 → Int32 → Int32 → Int32 → Int32 → Bool → JMem → Option JMem} {k194H : Int32 → Int32 → Int32 → Int32 → Int32 → Int32 → Bool → MT → Option MT} (i194 : ∀ (v2 : Int32) (v3 : Int32) (v4 : Int32) (v5 : Int32) (v6 : Int32) (v7 : Int32) (v8 : Bool) (T : MT), k194G m v2 v3 v4 v5 v6 v7 v8 (ov m ad T h0, c) = Option.map (mV m ad h0 c) (k194H v2 v3 v4 v5 v6 v7 v8 T)) : ∀ (v2 : Int32) (v3 : Int32) (v4 : Int32) (v5 : Int32) (v7 : Int32) (s0 : Int32) (T : MT), g_R_finds_213 N B k114G k194G m v2 v3 v4 v5 v7 s0 (ov m ad T h0, c) = Option.map (mV m ad h0 c) (h_R_finds_213 N k114H k194H v2 v3 v4 v5 v7 s0 T) := by
  intro v2 v3 v4 v5 v7 s0 T
  simp only [jlet, g_R_finds_213, h_R_finds_213, obd_some, obd_assoc, jgd_true, ov_job, map_obd, map_tbd2, map_ite, map_jlet, map_someV, map_someF, obd_mapV, jbd2_mapF, jbd2_some, tbd2_some, ov_g_56, ov_a_56 hA, e_R_finds_238 hA (k114G := k114G) (k114H := k114H) i114 (k194G := k194G) (k194H := k194H) i194]
set_option maxRecDepth 10000 in
set_option maxHeartbeats 4000000 in
theorem e_R_finds_277 {N B m : Nat} {ad : Nat → Nat} (hA : MA B m ad) {h0 : Nat → Option JCell} {c : Nat × Nat} {k114G : Nat → Int32 → JMem → Option JMem} {k114H : Int32 → MT → Option MT} (i114 : ∀ (v2 : Int32) (T : MT), k114G m v2 (ov m ad T h0, c) = Option.map (mV m ad h0 c) (k114H v2 T)) : ∀ (n : Nat), ∀ (v2 : Int32) (v3 : Int32) (v4 : Int32) (T : MT), g_R_finds_277 N B k114G n m v2 v3 v4 (ov m ad T h0, c) = Option.map (mV m ad h0 c) (h_R_finds_277 N k114H n v2 v3 v4 T) := by
  intro n
  induction n with
  | zero => intros; rfl
  | succ n ih =>
    intro v2 v3 v4 T
    simp only [jlet, g_R_finds_277, h_R_finds_277, obd_some, obd_assoc, jgd_true, ov_job, map_obd, map_tbd2, map_ite, map_jlet, map_someV, map_someF, obd_mapV, jbd2_mapF, jbd2_some, tbd2_some, ov_g_56, ov_g_57, ov_g_60, ov_a_56 hA, ov_s_56 hA, ov_a_57 hA, ov_s_57 hA, ov_a_60 hA, ov_s_60 hA, i114, ih]
set_option maxRecDepth 10000 in
set_option maxHeartbeats 4000000 in
theorem e_R_finds_275 {N B m : Nat} {ad : Nat → Nat} (hA : MA B m ad) {h0 : Nat → Option JCell} {c : Nat × Nat} {k114G : Nat → Int32 → JMem → Option JMem} {k114H : Int32 → MT → Option MT} (i114 : ∀ (v2 : Int32) (T : MT), k114G m v2 (ov m ad T h0, c) = Option.map (mV m ad h0 c) (k114H v2 T)) : ∀ (v2 : Int32) (v4 : Int32) (T : MT), g_R_finds_275 N B k114G m v2 v4 (ov m ad T h0, c) = Option.map (mV m ad h0 c) (h_R_finds_275 N k114H v2 v4 T) := by
  intro v2 v4 T
  simp only [jlet, g_R_finds_275, h_R_finds_275, obd_some, obd_assoc, jgd_true, ov_job, map_obd, map_tbd2, map_ite, map_jlet, map_someV, map_someF, obd_mapV, jbd2_mapF, jbd2_some, tbd2_some, e_R_finds_277 hA (k114G := k114G) (k114H := k114H) i114]
set_option maxRecDepth 10000 in
set_option maxHeartbeats 4000000 in
theorem e_R_finds_194 {N B m : Nat} {ad : Nat → Nat} (hA : MA B m ad) {h0 : Nat → Option JCell} {c : Nat × Nat} {k114G : Nat → Int32 → JMem → Option JMem} {k114H : Int32 → MT → Option MT} (i114 : ∀ (v2 : Int32) (T : MT), k114G m v2 (ov m ad T h0, c) = Option.map (mV m ad h0 c) (k114H v2 T)) : ∀ (n : Nat), ∀ (v2 : Int32) (v3 : Int32) (v4 : Int32) (v5 : Int32) (v6 : Int32) (v7 : Int32) (v8 : Bool) (T : MT), g_R_finds_194 N B k114G n m v2 v3 v4 v5 v6 v7 v8 (ov m ad T h0, c) = Option.map (mV m ad h0 c) (h_R_finds_194 N k114H n v2 v3 v4 v5 v6 v7 v8 T) := by
  intro n
  induction n with
  | zero => intros; rfl
  | succ n ih =>
    intro v2 v3 v4 v5 v6 v7 v8 T
    simp only [jlet, g_R_finds_194, h_R_finds_194, obd_some, obd_assoc, jgd_true, ov_job, map_obd, map_tbd2, map_ite, map_jlet, map_someV, map_someF, obd_mapV, jbd2_mapF, jbd2_some, tbd2_some, ov_g_58, ov_g_59, ov_g_60, ov_s_58 hA, ov_s_59 hA, ov_s_60 hA, e_R_finds_213 hA (k114G := k114G) (k114H := k114H) i114 (k194G := g_R_finds_194 N B k114G n) (k194H := h_R_finds_194 N k114H n) ih, e_R_finds_275 hA (k114G := k114G) (k114H := k114H) i114]
set_option maxRecDepth 10000 in
set_option maxHeartbeats 4000000 in
theorem e_R_finds_122 {N B m : Nat} {ad : Nat → Nat} (hA : MA B m ad) {h0 : Nat → Option JCell} {c : Nat × Nat} {k114G : Nat → Int32 → JMem → Option JMem} {k114H : Int32 → MT → Option MT} (i114 : ∀ (v2 : Int32) (T : MT), k114G m v2 (ov m ad T h0, c) = Option.map (mV m ad h0 c) (k114H v2 T)) : ∀ (n : Nat), ∀ (v2 : Int32) (v3 : Int32) (T : MT), g_R_finds_122 N B k114G n m v2 v3 (ov m ad T h0, c) = Option.map (mV m ad h0 c) (h_R_finds_122 N k114H n v2 v3 T) := by
  intro n
  induction n with
  | zero => intros; rfl
  | succ n ih =>
    intro v2 v3 T
    simp only [jlet, g_R_finds_122, h_R_finds_122, obd_some, obd_assoc, jgd_true, ov_job, map_obd, map_tbd2, map_ite, map_jlet, map_someV, map_someF, obd_mapV, jbd2_mapF, jbd2_some, tbd2_some, ov_g_55, ov_g_56, ov_g_57, ov_p_55 hA, ov_a_56 hA, ov_s_56 hA, ov_a_57 hA, ov_s_57 hA, ih, e_R_finds_194 hA (k114G := k114G) (k114H := k114H) i114, e_R_finds_275 hA (k114G := k114G) (k114H := k114H) i114]
set_option maxRecDepth 10000 in
set_option maxHeartbeats 4000000 in
theorem e_R_finds_114 {N B m : Nat} {ad : Nat → Nat} (hA : MA B m ad) {h0 : Nat → Option JCell} {c : Nat × Nat} : ∀ (n : Nat), ∀ (v2 : Int32) (T : MT), g_R_finds_114 N B n m v2 (ov m ad T h0, c) = Option.map (mV m ad h0 c) (h_R_finds_114 N n v2 T) := by
  intro n
  induction n with
  | zero => intros; rfl
  | succ n ih =>
    intro v2 T
    simp only [jlet, g_R_finds_114, h_R_finds_114, obd_some, obd_assoc, jgd_true, ov_job, map_obd, map_tbd2, map_ite, map_jlet, map_someV, map_someF, obd_mapV, jbd2_mapF, jbd2_some, tbd2_some, e_R_finds_122 hA (k114G := g_R_finds_114 N B n) (k114H := h_R_finds_114 N n) ih]
set_option maxRecDepth 10000 in
set_option maxHeartbeats 4000000 in
theorem e_R_finds_7 {N B m : Nat} {ad : Nat → Nat} (hA : MA B m ad) {h0 : Nat → Option JCell} {c : Nat × Nat} : ∀ (n : Nat), ∀ (v1 : Int32) (v2 : Int32) (T : MT), g_R_finds_7 N B n m v1 v2 (ov m ad T h0, c) = Option.map (mV m ad h0 c) (h_R_finds_7 N n v1 v2 T) := by
  intro n
  induction n with
  | zero => intros; rfl
  | succ n ih =>
    intro v1 v2 T
    simp only [jlet, g_R_finds_7, h_R_finds_7, obd_some, obd_assoc, jgd_true, ov_job, map_obd, map_tbd2, map_ite, map_jlet, map_someV, map_someF, obd_mapV, jbd2_mapF, jbd2_some, tbd2_some, ov_g_5, ov_a_5 hA, e_R_c hA, e_R_finds_56 hA (k7G := g_R_finds_7 N B n) (k7H := h_R_finds_7 N n) ih, e_R_finds_114 hA]
set_option maxRecDepth 10000 in
set_option maxHeartbeats 4000000 in
theorem e_R_finds {N B m : Nat} {ad : Nat → Nat} (hA : MA B m ad) {h0 : Nat → Option JCell} {c : Nat × Nat} : ∀ (v1 : Int32) (T : MT), g_R_finds N B m v1 (ov m ad T h0, c) = Option.map (mV m ad h0 c) (h_R_finds N v1 T) := by
  intro v1 T
  simp only [jlet, g_R_finds, h_R_finds, obd_some, obd_assoc, jgd_true, ov_job, map_obd, map_tbd2, map_ite, map_jlet, map_someV, map_someF, obd_mapV, jbd2_mapF, jbd2_some, tbd2_some, ov_p_55 hA, e_R_finds_7 hA]
set_option maxRecDepth 10000 in
set_option maxHeartbeats 4000000 in
theorem e_R_isDead {B m : Nat} {ad : Nat → Nat} (hA : MA B m ad) {h0 : Nat → Option JCell} : ∀ (v1 : Int32) (T : MT), g_R_isDead m v1 (ov m ad T h0) = h_R_isDead v1 T := by
  intro v1 T
  simp only [jlet, g_R_isDead, h_R_isDead, obd_some, obd_assoc, jgd_true, ov_job, map_obd, map_tbd2, map_ite, map_jlet, map_someV, map_someF, obd_mapV, jbd2_mapF, jbd2_some, tbd2_some, ov_g_2, ov_g_3, ov_g_5, ov_a_2 hA, ov_a_3 hA, ov_a_5 hA, e_R_isSection hA]
set_option maxRecDepth 10000 in
set_option maxHeartbeats 4000000 in
theorem e_R_cycles {N B m : Nat} {ad : Nat → Nat} (hA : MA B m ad) {h0 : Nat → Option JCell} {c : Nat × Nat} : ∀ (v1 : Int32) (T : MT), g_R_cycles N B m v1 (ov m ad T h0, c) = Option.map (mF m ad h0 c) (h_R_cycles N v1 T) := by
  intro v1 T
  simp only [jlet, g_R_cycles, h_R_cycles, obd_some, obd_assoc, jgd_true, ov_job, map_obd, map_tbd2, map_ite, map_jlet, map_someV, map_someF, obd_mapV, jbd2_mapF, jbd2_some, tbd2_some, ov_g_55, e_R_finds hA, e_R_isDead hA]
set_option maxRecDepth 10000 in
set_option maxHeartbeats 4000000 in
theorem e_R_cycle_94 {N B m : Nat} {ad : Nat → Nat} (hA : MA B m ad) {h0 : Nat → Option JCell} {c : Nat × Nat} {k40G : Nat → Int32 → Int32 → Int32 → Int32 → JMem → Option (Int32 × JMem)} {k40H : Int32 → Int32 → Int32 → Int32 → MT → Option (Int32 × MT)} (i40 : ∀ (v3 : Int32) (v4 : Int32) (v5 : Int32) (v6 : Int32) (T : MT), k40G m v3 v4 v5 v6 (ov m ad T h0, c) = Option.map (mF m ad h0 c) (k40H v3 v4 v5 v6 T)) : ∀ (v3 : Int32) (v4 : Int32) (v5 : Int32) (v6 : Int32) (T : MT), g_R_cycle_94 N B k40G m v3 v4 v5 v6 (ov m ad T h0, c) = Option.map (mF m ad h0 c) (h_R_cycle_94 N k40H v3 v4 v5 v6 T) := by
  intro v3 v4 v5 v6 T
  simp only [jlet, g_R_cycle_94, h_R_cycle_94, obd_some, obd_assoc, jgd_true, ov_job, map_obd, map_tbd2, map_ite, map_jlet, map_someV, map_someF, obd_mapV, jbd2_mapF, jbd2_some, tbd2_some, i40]
set_option maxRecDepth 10000 in
set_option maxHeartbeats 4000000 in
theorem e_R_cycle_91 {N B m : Nat} {ad : Nat → Nat} (hA : MA B m ad) {h0 : Nat → Option JCell} {c : Nat × Nat} {k40G : Nat → Int32 → Int32 → Int32 → Int32 → JMem → Option (Int32 × JMem)} {k40H : Int32 → Int32 → Int32 → Int32 → MT → Option (Int32 × MT)} (i40 : ∀ (v3 : Int32) (v4 : Int32) (v5 : Int32) (v6 : Int32) (T : MT), k40G m v3 v4 v5 v6 (ov m ad T h0, c) = Option.map (mF m ad h0 c) (k40H v3 v4 v5 v6 T)) : ∀ (v3 : Int32) (v4 : Int32) (v5 : Int32) (v6 : Int32) (T : MT), g_R_cycle_91 N B k40G m v3 v4 v5 v6 (ov m ad T h0, c) = Option.map (mF m ad h0 c) (h_R_cycle_91 N k40H v3 v4 v5 v6 T) := by
  intro v3 v4 v5 v6 T
  simp only [jlet, g_R_cycle_91, h_R_cycle_91, obd_some, obd_assoc, jgd_true, ov_job, map_obd, map_tbd2, map_ite, map_jlet, map_someV, map_someF, obd_mapV, jbd2_mapF, jbd2_some, tbd2_some, e_R_cycle_94 hA (k40G := k40G) (k40H := k40H) i40]
set_option maxRecDepth 10000 in
set_option maxHeartbeats 4000000 in
theorem e_R_cycle_100 {N B m : Nat} {ad : Nat → Nat} (hA : MA B m ad) {h0 : Nat → Option JCell} {c : Nat × Nat} : ∀ (v3 : Int32) (v4 : Int32) (T : MT), g_R_cycle_100 N B m v3 v4 (ov m ad T h0, c) = Option.map (mF m ad h0 c) (h_R_cycle_100 N v3 v4 T) := by
  intro v3 v4 T
  simp only [jlet, g_R_cycle_100, h_R_cycle_100, obd_some, obd_assoc, jgd_true, ov_job, map_obd, map_tbd2, map_ite, map_jlet, map_someV, map_someF, obd_mapV, jbd2_mapF, jbd2_some, tbd2_some, ov_g_58, ov_g_59, ov_g_60, ov_a_58 hA, ov_a_59 hA, ov_a_60 hA]
set_option maxRecDepth 10000 in
set_option maxHeartbeats 4000000 in
theorem e_R_cycle_40 {N B m : Nat} {ad : Nat → Nat} (hA : MA B m ad) {h0 : Nat → Option JCell} {c : Nat × Nat} : ∀ (n : Nat), ∀ (v3 : Int32) (v4 : Int32) (v5 : Int32) (v6 : Int32) (T : MT), g_R_cycle_40 N B n m v3 v4 v5 v6 (ov m ad T h0, c) = Option.map (mF m ad h0 c) (h_R_cycle_40 N n v3 v4 v5 v6 T) := by
  intro n
  induction n with
  | zero => intros; rfl
  | succ n ih =>
    intro v3 v4 v5 v6 T
    simp only [jlet, g_R_cycle_40, h_R_cycle_40, obd_some, obd_assoc, jgd_true, ov_job, map_obd, map_tbd2, map_ite, map_jlet, map_someV, map_someF, obd_mapV, jbd2_mapF, jbd2_some, tbd2_some, ov_g_57, ov_g_58, ov_a_57 hA, ov_a_58 hA, e_R_cycle_91 hA (k40G := g_R_cycle_40 N B n) (k40H := h_R_cycle_40 N n) ih, e_R_cycle_94 hA (k40G := g_R_cycle_40 N B n) (k40H := h_R_cycle_40 N n) ih, e_R_cycle_100 hA]
set_option maxRecDepth 10000 in
set_option maxHeartbeats 4000000 in
theorem e_R_cycle {N B m : Nat} {ad : Nat → Nat} (hA : MA B m ad) {h0 : Nat → Option JCell} {c : Nat × Nat} : ∀ (v1 : Int32) (v2 : Int32) (v3 : Int32) (T : MT), g_R_cycle N B m v1 v2 v3 (ov m ad T h0, c) = Option.map (mF m ad h0 c) (h_R_cycle N v1 v2 v3 T) := by
  intro v1 v2 v3 T
  simp only [jlet, g_R_cycle, h_R_cycle, obd_some, obd_assoc, jgd_true, ov_job, map_obd, map_tbd2, map_ite, map_jlet, map_someV, map_someF, obd_mapV, jbd2_mapF, jbd2_some, tbd2_some, ov_g_55, e_R_finds hA, e_R_isDead hA, e_R_cycle_40 hA]
set_option maxRecDepth 10000 in
set_option maxHeartbeats 4000000 in
theorem e_R_gathers_55 {N B m : Nat} {ad : Nat → Nat} (hA : MA B m ad) {h0 : Nat → Option JCell} {c : Nat × Nat} : ∀ (n : Nat), ∀ (v1 : Int32) (v2 : Int32) (v3 : Int32) (v4 : Int32) (v5 : Int32) (T : MT), g_R_gathers_55 N B n m v1 v2 v3 v4 v5 (ov m ad T h0, c) = Option.map (mF m ad h0 c) (h_R_gathers_55 N n v1 v2 v3 v4 v5 T) := by
  intro n
  induction n with
  | zero => intros; rfl
  | succ n ih =>
    intro v1 v2 v3 v4 v5 T
    simp only [jlet, g_R_gathers_55, h_R_gathers_55, obd_some, obd_assoc, jgd_true, ov_job, map_obd, map_tbd2, map_ite, map_jlet, map_someV, map_someF, obd_mapV, jbd2_mapF, jbd2_some, tbd2_some, ov_g_20, ov_g_21, ov_g_22, ov_g_23, ov_g_24, ov_a_20 hA, ov_a_21 hA, ov_a_22 hA, ov_a_23 hA, ov_a_24 hA, e_R_newLoop hA, ih]
set_option maxRecDepth 10000 in
set_option maxHeartbeats 4000000 in
theorem e_R_gathers_9 {N B m : Nat} {ad : Nat → Nat} (hA : MA B m ad) {h0 : Nat → Option JCell} {c : Nat × Nat} : ∀ (n : Nat), ∀ (v1 : Int32) (v2 : Int32) (v3 : Int32) (v4 : Int32) (v5 : Int32) (T : MT), g_R_gathers_9 N B n m v1 v2 v3 v4 v5 (ov m ad T h0, c) = Option.map (mF m ad h0 c) (h_R_gathers_9 N n v1 v2 v3 v4 v5 T) := by
  intro n
  induction n with
  | zero => intros; rfl
  | succ n ih =>
    intro v1 v2 v3 v4 v5 T
    simp only [jlet, g_R_gathers_9, h_R_gathers_9, obd_some, obd_assoc, jgd_true, ov_job, map_obd, map_tbd2, map_ite, map_jlet, map_someV, map_someF, obd_mapV, jbd2_mapF, jbd2_some, tbd2_some, ov_g_17, ov_g_18, ov_g_64, ov_a_17 hA, ov_a_18 hA, ov_a_64 hA, e_R_join hA, ih, e_R_gathers_55 hA]
set_option maxRecDepth 10000 in
set_option maxHeartbeats 4000000 in
theorem e_R_gathers {N B m : Nat} {ad : Nat → Nat} (hA : MA B m ad) {h0 : Nat → Option JCell} {c : Nat × Nat} : ∀ (v1 : Int32) (v2 : Int32) (v3 : Int32) (T : MT), g_R_gathers N B m v1 v2 v3 (ov m ad T h0, c) = Option.map (mF m ad h0 c) (h_R_gathers N v1 v2 v3 T) := by
  intro v1 v2 v3 T
  simp only [jlet, g_R_gathers, h_R_gathers, obd_some, obd_assoc, jgd_true, ov_job, map_obd, map_tbd2, map_ite, map_jlet, map_someV, map_someF, obd_mapV, jbd2_mapF, jbd2_some, tbd2_some, e_R_newChain hA, e_R_gathers_9 hA]
set_option maxRecDepth 10000 in
set_option maxHeartbeats 4000000 in
theorem e_R_anew_295 {N B m : Nat} {ad : Nat → Nat} (hA : MA B m ad) {h0 : Nat → Option JCell} {c : Nat × Nat} {k47G : Nat → Int32 → Int32 → Int32 → Int32 → JMem → Option (Int32 × JMem)} {k47H : Int32 → Int32 → Int32 → Int32 → MT → Option (Int32 × MT)} (i47 : ∀ (v1 : Int32) (v2 : Int32) (v3 : Int32) (v4 : Int32) (T : MT), k47G m v1 v2 v3 v4 (ov m ad T h0, c) = Option.map (mF m ad h0 c) (k47H v1 v2 v3 v4 T)) : ∀ (v1 : Int32) (v2 : Int32) (v3 : Int32) (v4 : Int32) (v7 : Int32) (v8 : Int32) (T : MT), g_R_anew_295 N B k47G m v1 v2 v3 v4 v7 v8 (ov m ad T h0, c) = Option.map (mF m ad h0 c) (h_R_anew_295 N k47H v1 v2 v3 v4 v7 v8 T) := by
  intro v1 v2 v3 v4 v7 v8 T
  simp only [jlet, g_R_anew_295, h_R_anew_295, obd_some, obd_assoc, jgd_true, ov_job, map_obd, map_tbd2, map_ite, map_jlet, map_someV, map_someF, obd_mapV, jbd2_mapF, jbd2_some, tbd2_some, ov_g_10, ov_g_19, ov_g_64, ov_g_65, ov_g_67, ov_a_10 hA, ov_s_10 hA, ov_a_19 hA, ov_s_19 hA, ov_a_64 hA, ov_s_64 hA, ov_a_65 hA, ov_s_65 hA, ov_a_67 hA, ov_s_67 hA, i47]
set_option maxRecDepth 10000 in
set_option maxHeartbeats 4000000 in
theorem e_R_anew_201 {N B m : Nat} {ad : Nat → Nat} (hA : MA B m ad) {h0 : Nat → Option JCell} {c : Nat × Nat} {k47G : Nat → Int32 → Int32 → Int32 → Int32 → JMem → Option (Int32 × JMem)} {k47H : Int32 → Int32 → Int32 → Int32 → MT → Option (Int32 × MT)} (i47 : ∀ (v1 : Int32) (v2 : Int32) (v3 : Int32) (v4 : Int32) (T : MT), k47G m v1 v2 v3 v4 (ov m ad T h0, c) = Option.map (mF m ad h0 c) (k47H v1 v2 v3 v4 T)) : ∀ (n : Nat), ∀ (v1 : Int32) (v2 : Int32) (v3 : Int32) (v4 : Int32) (v7 : Int32) (v8 : Int32) (v9 : Int32) (T : MT), g_R_anew_201 N B k47G n m v1 v2 v3 v4 v7 v8 v9 (ov m ad T h0, c) = Option.map (mF m ad h0 c) (h_R_anew_201 N k47H n v1 v2 v3 v4 v7 v8 v9 T) := by
  intro n
  induction n with
  | zero => intros; rfl
  | succ n ih =>
    intro v1 v2 v3 v4 v7 v8 v9 T
    simp only [jlet, g_R_anew_201, h_R_anew_201, obd_some, obd_assoc, jgd_true, ov_job, map_obd, map_tbd2, map_ite, map_jlet, map_someV, map_someF, obd_mapV, jbd2_mapF, jbd2_some, tbd2_some, ov_g_2, ov_g_5, ov_g_6, ov_g_7, ov_a_2 hA, ov_s_2 hA, ov_a_5 hA, ov_s_5 hA, ov_a_6 hA, ov_s_6 hA, ov_a_7 hA, ov_s_7 hA, e_R_c hA, ih, e_R_anew_295 hA (k47G := k47G) (k47H := k47H) i47]
set_option maxRecDepth 10000 in
set_option maxHeartbeats 4000000 in
theorem e_R_anew_177 {N B m : Nat} {ad : Nat → Nat} (hA : MA B m ad) {h0 : Nat → Option JCell} {c : Nat × Nat} {k47G : Nat → Int32 → Int32 → Int32 → Int32 → JMem → Option (Int32 × JMem)} {k47H : Int32 → Int32 → Int32 → Int32 → MT → Option (Int32 × MT)} (i47 : ∀ (v1 : Int32) (v2 : Int32) (v3 : Int32) (v4 : Int32) (T : MT), k47G m v1 v2 v3 v4 (ov m ad T h0, c) = Option.map (mF m ad h0 c) (k47H v1 v2 v3 v4 T)) : ∀ (v1 : Int32) (v2 : Int32) (v3 : Int32) (v4 : Int32) (v7 : Int32) (T : MT), g_R_anew_177 N B k47G m v1 v2 v3 v4 v7 (ov m ad T h0, c) = Option.map (mF m ad h0 c) (h_R_anew_177 N k47H v1 v2 v3 v4 v7 T) := by
  intro v1 v2 v3 v4 v7 T
  simp only [jlet, g_R_anew_177, h_R_anew_177, obd_some, obd_assoc, jgd_true, ov_job, map_obd, map_tbd2, map_ite, map_jlet, map_someV, map_someF, obd_mapV, jbd2_mapF, jbd2_some, tbd2_some, ov_g_2, ov_g_4, ov_a_2 hA, ov_a_4 hA, e_R_newSection hA, e_R_anew_201 hA (k47G := k47G) (k47H := k47H) i47]
set_option maxRecDepth 10000 in
set_option maxHeartbeats 4000000 in
theorem e_R_anew_47 {N B m : Nat} {ad : Nat → Nat} (hA : MA B m ad) {h0 : Nat → Option JCell} {c : Nat × Nat} : ∀ (n : Nat), ∀ (v1 : Int32) (v2 : Int32) (v3 : Int32) (v4 : Int32) (T : MT), g_R_anew_47 N B n m v1 v2 v3 v4 (ov m ad T h0, c) = Option.map (mF m ad h0 c) (h_R_anew_47 N n v1 v2 v3 v4 T) := by
  intro n
  induction n with
  | zero => intros; rfl
  | succ n ih =>
    intro v1 v2 v3 v4 T
    simp only [jlet, g_R_anew_47, h_R_anew_47, obd_some, obd_assoc, jgd_true, ov_job, map_obd, map_tbd2, map_ite, map_jlet, map_someV, map_someF, obd_mapV, jbd2_mapF, jbd2_some, tbd2_some, ov_g_10, ov_g_17, ov_g_18, ov_g_65, ov_g_66, ov_g_67, ov_a_10 hA, ov_s_10 hA, ov_a_17 hA, ov_s_17 hA, ov_a_18 hA, ov_s_18 hA, ov_a_65 hA, ov_s_65 hA, ov_a_66 hA, ov_s_66 hA, ov_a_67 hA, ov_s_67 hA, e_R_gathers hA, ih, e_R_anew_177 hA (k47G := g_R_anew_47 N B n) (k47H := h_R_anew_47 N n) ih]
set_option maxRecDepth 10000 in
set_option maxHeartbeats 4000000 in
theorem e_R_anew_9 {N B m : Nat} {ad : Nat → Nat} (hA : MA B m ad) {h0 : Nat → Option JCell} {c : Nat × Nat} : ∀ (n : Nat), ∀ (v1 : Int32) (v2 : Int32) (v3 : Int32) (v4 : Int32) (T : MT), g_R_anew_9 N B n m v1 v2 v3 v4 (ov m ad T h0, c) = Option.map (mF m ad h0 c) (h_R_anew_9 N n v1 v2 v3 v4 T) := by
  intro n
  induction n with
  | zero => intros; rfl
  | succ n ih =>
    intro v1 v2 v3 v4 T
    simp only [jlet, g_R_anew_9, h_R_anew_9, obd_some, obd_assoc, jgd_true, ov_job, map_obd, map_tbd2, map_ite, map_jlet, map_someV, map_someF, obd_mapV, jbd2_mapF, jbd2_some, tbd2_some, ov_g_65, ov_g_66, ov_g_67, ov_s_65 hA, ov_s_66 hA, ov_s_67 hA, ih, e_R_anew_47 hA]
set_option maxRecDepth 10000 in
set_option maxHeartbeats 4000000 in
theorem e_R_anew {N B m : Nat} {ad : Nat → Nat} (hA : MA B m ad) {h0 : Nat → Option JCell} {c : Nat × Nat} : ∀ (v1 : Int32) (v2 : Int32) (T : MT), g_R_anew N B m v1 v2 (ov m ad T h0, c) = Option.map (mF m ad h0 c) (h_R_anew N v1 v2 T) := by
  intro v1 v2 T
  simp only [jlet, g_R_anew, h_R_anew, obd_some, obd_assoc, jgd_true, ov_job, map_obd, map_tbd2, map_ite, map_jlet, map_someV, map_someF, obd_mapV, jbd2_mapF, jbd2_some, tbd2_some, e_R_sortOf hA, e_R_anew_9 hA]
set_option maxRecDepth 10000 in
set_option maxHeartbeats 4000000 in
theorem e_R_asks_74 {N B m : Nat} {ad : Nat → Nat} (hA : MA B m ad) {h0 : Nat → Option JCell} {c : Nat × Nat} {k21G : Nat → Int32 → Int32 → Int32 → Int32 → JMem → Option JMem} {k21H : Int32 → Int32 → Int32 → Int32 → MT → Option MT} (i21 : ∀ (v1 : Int32) (v2 : Int32) (v3 : Int32) (v4 : Int32) (T : MT), k21G m v1 v2 v3 v4 (ov m ad T h0, c) = Option.map (mV m ad h0 c) (k21H v1 v2 v3 v4 T)) : ∀ (v1 : Int32) (v2 : Int32) (v3 : Int32) (v4 : Int32) (s0 : Bool) (T : MT), g_R_asks_74 N B k21G m v1 v2 v3 v4 s0 m (ov m ad T h0, c) = Option.map (mV m ad h0 c) (h_R_asks_74 N k21H v1 v2 v3 v4 s0 T) := by
  intro v1 v2 v3 v4 s0 T
  simp only [jlet, g_R_asks_74, h_R_asks_74, obd_some, obd_assoc, jgd_true, ov_job, map_obd, map_tbd2, map_ite, map_jlet, map_someV, map_someF, obd_mapV, jbd2_mapF, jbd2_some, tbd2_some, ov_p_63 hA, i21]
set_option maxRecDepth 10000 in
set_option maxHeartbeats 4000000 in
theorem e_R_asks_69 {N B m : Nat} {ad : Nat → Nat} (hA : MA B m ad) {h0 : Nat → Option JCell} {c : Nat × Nat} {k21G : Nat → Int32 → Int32 → Int32 → Int32 → JMem → Option JMem} {k21H : Int32 → Int32 → Int32 → Int32 → MT → Option MT} (i21 : ∀ (v1 : Int32) (v2 : Int32) (v3 : Int32) (v4 : Int32) (T : MT), k21G m v1 v2 v3 v4 (ov m ad T h0, c) = Option.map (mV m ad h0 c) (k21H v1 v2 v3 v4 T)) : ∀ (v1 : Int32) (v2 : Int32) (v3 : Int32) (v4 : Int32) (T : MT), g_R_asks_69 N B k21G m v1 v2 v3 v4 m (ov m ad T h0, c) = Option.map (mV m ad h0 c) (h_R_asks_69 N k21H v1 v2 v3 v4 T) := by
  intro v1 v2 v3 v4 T
  simp only [jlet, g_R_asks_69, h_R_asks_69, obd_some, obd_assoc, jgd_true, ov_job, map_obd, map_tbd2, map_ite, map_jlet, map_someV, map_someF, obd_mapV, jbd2_mapF, jbd2_some, tbd2_some, e_R_asks_74 hA (k21G := k21G) (k21H := k21H) i21]
set_option maxRecDepth 10000 in
set_option maxHeartbeats 4000000 in
theorem e_R_asks_73 {N B m : Nat} {ad : Nat → Nat} (hA : MA B m ad) {h0 : Nat → Option JCell} {c : Nat × Nat} {k21G : Nat → Int32 → Int32 → Int32 → Int32 → JMem → Option JMem} {k21H : Int32 → Int32 → Int32 → Int32 → MT → Option MT} (i21 : ∀ (v1 : Int32) (v2 : Int32) (v3 : Int32) (v4 : Int32) (T : MT), k21G m v1 v2 v3 v4 (ov m ad T h0, c) = Option.map (mV m ad h0 c) (k21H v1 v2 v3 v4 T)) : ∀ (v1 : Int32) (v2 : Int32) (v3 : Int32) (v4 : Int32) (T : MT), g_R_asks_73 N B k21G m v1 v2 v3 v4 m (ov m ad T h0, c) = Option.map (mV m ad h0 c) (h_R_asks_73 N k21H v1 v2 v3 v4 T) := by
  intro v1 v2 v3 v4 T
  simp only [jlet, g_R_asks_73, h_R_asks_73, obd_some, obd_assoc, jgd_true, ov_job, map_obd, map_tbd2, map_ite, map_jlet, map_someV, map_someF, obd_mapV, jbd2_mapF, jbd2_some, tbd2_some, e_R_asks_74 hA (k21G := k21G) (k21H := k21H) i21]
set_option maxRecDepth 10000 in
set_option maxHeartbeats 4000000 in
theorem e_R_asks_187 {N B m : Nat} {ad : Nat → Nat} (hA : MA B m ad) {h0 : Nat → Option JCell} {c : Nat × Nat} {k86G : Nat → Int32 → Int32 → Int32 → Int32 → JMem → Option JMem} {k86H : Int32 → Int32 → Int32 → Int32 → MT → Option MT} (i86 : ∀ (v1 : Int32) (v2 : Int32) (v3 : Int32) (v4 : Int32) (T : MT), k86G m v1 v2 v3 v4 (ov m ad T h0, c) = Option.map (mV m ad h0 c) (k86H v1 v2 v3 v4 T)) {k124G : Nat → Int32 → Int32 → Int32 → Int32 → Int32 → Int32 → JMem → Option JMem} {k124H : Int32 → Int32 → Int32 → Int32 → Int32 → Int32 → MT → Option MT} (i124 : ∀ (v1 : Int32) (v2 : Int32) (v3 : Int32) (v4 : Int32) (v5 : Int32) (v6 : Int32) (T : MT), k124G m v1 v2 v3 v4 v5 v6 (ov m ad T h0, c) = Option.map (mV m ad h0 c) (k124H v1 v2 v3 v4 v5 v6 T)) : ∀ (v1 : Int32) (v2 : Int32) (v3 : Int32) (v4 : Int32) (v5 : Int32) (v6 : Int32) (s0 : Bool) (T : MT), g_R_asks_187 N B k86G k124G m v1 v2 v3 v4 v5 v6 s0 m (ov m ad T h0, c) = Option.map (mV m ad h0 c) (h_R_asks_187 N k86H k124H v1 v2 v3 v4 v5 v6 s0 T) := by
  intro v1 v2 v3 v4 v5 v6 s0 T
  simp only [jlet, g_R_asks_187, h_R_asks_187, obd_some, obd_assoc, jgd_true, ov_job, map_obd, map_tbd2, map_ite, map_jlet, map_someV, map_someF, obd_mapV, jbd2_mapF, jbd2_some, tbd2_some, ov_p_63 hA, i124]
set_option maxRecDepth 10000 in
set_option maxHeartbeats 4000000 in
theorem e_R_asks_182 {N B m : Nat} {ad : Nat → Nat} (hA : MA B m ad) {h0 : Nat → Option JCell} {c : Nat × Nat} {k86G : Nat → Int32 → Int32 → Int32 → Int32 → JMem → Option JMem} {k86H : Int32 → Int32 → Int32 → Int32 → MT → Option MT} (i86 : ∀ (v1 : Int32) (v2 : Int32) (v3 : Int32) (v4 : Int32) (T : MT), k86G m v1 v2 v3 v4 (ov m ad T h0, c) = Option.map (mV m ad h0 c) (k86H v1 v2 v3 v4 T)) {k124G : Nat → Int32 → Int32 → Int32 → Int32 → Int32 → Int32 → JMem → Option JMem} {k124H : Int32 → Int32 → Int32 → Int32 → Int32 → Int32 → MT → Option MT} (i124 : ∀ (v1 : Int32) (v2 : Int32) (v3 : Int32) (v4 : Int32) (v5 : Int32) (v6 : Int32) (T : MT), k124G m v1 v2 v3 v4 v5 v6 (ov m ad T h0, c) = Option.map (mV m ad h0 c) (k124H v1 v2 v3 v4 v5 v6 T)) : ∀ (v1 : Int32) (v2 : Int32) (v3 : Int32) (v4 : Int32) (v5 : Int32) (v6 : Int32) (T : MT), g_R_asks_182 N B k86G k124G m v1 v2 v3 v4 v5 v6 m (ov m ad T h0, c) = Option.map (mV m ad h0 c) (h_R_asks_182 N k86H k124H v1 v2 v3 v4 v5 v6 T) := by
  intro v1 v2 v3 v4 v5 v6 T
  simp only [jlet, g_R_asks_182, h_R_asks_182, obd_some, obd_assoc, jgd_true, ov_job, map_obd, map_tbd2, map_ite, map_jlet, map_someV, map_someF, obd_mapV, jbd2_mapF, jbd2_some, tbd2_some, e_R_asks_187 hA (k86G := k86G) (k86H := k86H) i86 (k124G := k124G) (k124H := k124H) i124]
set_option maxRecDepth 10000 in
set_option maxHeartbeats 4000000 in
theorem e_R_asks_186 {N B m : Nat} {ad : Nat → Nat} (hA : MA B m ad) {h0 : Nat → Option JCell} {c : Nat × Nat} {k86G : Nat → Int32 → Int32 → Int32 → Int32 → JMem → Option JMem} {k86H : Int32 → Int32 → Int32 → Int32 → MT → Option MT} (i86 : ∀ (v1 : Int32) (v2 : Int32) (v3 : Int32) (v4 : Int32) (T : MT), k86G m v1 v2 v3 v4 (ov m ad T h0, c) = Option.map (mV m ad h0 c) (k86H v1 v2 v3 v4 T)) {k124G : Nat → Int32 → Int32 → Int32 → Int32 → Int32 → Int32 → JMem → Option JMem} {k124H : Int32 → Int32 → Int32 → Int32 → Int32 → Int32 → MT → Option MT} (i124 : ∀ (v1 : Int32) (v2 : Int32) (v3 : Int32) (v4 : Int32) (v5 : Int32) (v6 : Int32) (T : MT), k124G m v1 v2 v3 v4 v5 v6 (ov m ad T h0, c) = Option.map (mV m ad h0 c) (k124H v1 v2 v3 v4 v5 v6 T)) : ∀ (v1 : Int32) (v2 : Int32) (v3 : Int32) (v4 : Int32) (v5 : Int32) (v6 : Int32) (T : MT), g_R_asks_186 N B k86G k124G m v1 v2 v3 v4 v5 v6 m (ov m ad T h0, c) = Option.map (mV m ad h0 c) (h_R_asks_186 N k86H k124H v1 v2 v3 v4 v5 v6 T) := by
  intro v1 v2 v3 v4 v5 v6 T
  simp only [jlet, g_R_asks_186, h_R_asks_186, obd_some, obd_assoc, jgd_true, ov_job, map_obd, map_tbd2, map_ite, map_jlet, map_someV, map_someF, obd_mapV, jbd2_mapF, jbd2_some, tbd2_some, e_R_asks_187 hA (k86G := k86G) (k86H := k86H) i86 (k124G := k124G) (k124H := k124H) i124]
set_option maxRecDepth 10000 in
set_option maxHeartbeats 4000000 in
theorem e_R_asks_124 {N B m : Nat} {ad : Nat → Nat} (hA : MA B m ad) {h0 : Nat → Option JCell} {c : Nat × Nat} {k86G : Nat → Int32 → Int32 → Int32 → Int32 → JMem → Option JMem} {k86H : Int32 → Int32 → Int32 → Int32 → MT → Option MT} (i86 : ∀ (v1 : Int32) (v2 : Int32) (v3 : Int32) (v4 : Int32) (T : MT), k86G m v1 v2 v3 v4 (ov m ad T h0, c) = Option.map (mV m ad h0 c) (k86H v1 v2 v3 v4 T)) : ∀ (n : Nat), ∀ (v1 : Int32) (v2 : Int32) (v3 : Int32) (v4 : Int32) (v5 : Int32) (v6 : Int32) (T : MT), g_R_asks_124 N B k86G n m v1 v2 v3 v4 v5 v6 (ov m ad T h0, c) = Option.map (mV m ad h0 c) (h_R_asks_124 N k86H n v1 v2 v3 v4 v5 v6 T) := by
  intro n
  induction n with
  | zero => intros; rfl
  | succ n ih =>
    intro v1 v2 v3 v4 v5 v6 T
    simp only [jlet, g_R_asks_124, h_R_asks_124, obd_some, obd_assoc, jgd_true, ov_job, map_obd, map_tbd2, map_ite, map_jlet, map_someV, map_someF, obd_mapV, jbd2_mapF, jbd2_some, tbd2_some, ov_g_2, ov_g_63, ov_a_2 hA, e_R_c hA, i86, e_R_asks_182 hA (k86G := k86G) (k86H := k86H) i86 (k124G := g_R_asks_124 N B k86G n) (k124H := h_R_asks_124 N k86H n) ih, e_R_asks_186 hA (k86G := k86G) (k86H := k86H) i86 (k124G := g_R_asks_124 N B k86G n) (k124H := h_R_asks_124 N k86H n) ih]
set_option maxRecDepth 10000 in
set_option maxHeartbeats 4000000 in
theorem e_R_asks_86 {N B m : Nat} {ad : Nat → Nat} (hA : MA B m ad) {h0 : Nat → Option JCell} {c : Nat × Nat} : ∀ (n : Nat), ∀ (v1 : Int32) (v2 : Int32) (v3 : Int32) (v4 : Int32) (T : MT), g_R_asks_86 N B n m v1 v2 v3 v4 (ov m ad T h0, c) = Option.map (mV m ad h0 c) (h_R_asks_86 N n v1 v2 v3 v4 T) := by
  intro n
  induction n with
  | zero => intros; rfl
  | succ n ih =>
    intro v1 v2 v3 v4 T
    simp only [jlet, g_R_asks_86, h_R_asks_86, obd_some, obd_assoc, jgd_true, ov_job, map_obd, map_tbd2, map_ite, map_jlet, map_someV, map_someF, obd_mapV, jbd2_mapF, jbd2_some, tbd2_some, ov_g_17, ov_g_18, ov_g_61, ov_p_61 hA, ov_a_17 hA, ov_a_18 hA, e_R_asks_124 hA (k86G := g_R_asks_86 N B n) (k86H := h_R_asks_86 N n) ih]
set_option maxRecDepth 10000 in
set_option maxHeartbeats 4000000 in
theorem e_R_asks_21 {N B m : Nat} {ad : Nat → Nat} (hA : MA B m ad) {h0 : Nat → Option JCell} {c : Nat × Nat} : ∀ (n : Nat), ∀ (v1 : Int32) (v2 : Int32) (v3 : Int32) (v4 : Int32) (T : MT), g_R_asks_21 N B n m v1 v2 v3 v4 (ov m ad T h0, c) = Option.map (mV m ad h0 c) (h_R_asks_21 N n v1 v2 v3 v4 T) := by
  intro n
  induction n with
  | zero => intros; rfl
  | succ n ih =>
    intro v1 v2 v3 v4 T
    simp only [jlet, g_R_asks_21, h_R_asks_21, obd_some, obd_assoc, jgd_true, ov_job, map_obd, map_tbd2, map_ite, map_jlet, map_someV, map_someF, obd_mapV, jbd2_mapF, jbd2_some, tbd2_some, ov_g_20, ov_g_24, ov_g_63, ov_a_20 hA, ov_a_24 hA, e_R_asks_69 hA (k21G := g_R_asks_21 N B n) (k21H := h_R_asks_21 N n) ih, e_R_asks_73 hA (k21G := g_R_asks_21 N B n) (k21H := h_R_asks_21 N n) ih, e_R_asks_86 hA]
set_option maxRecDepth 10000 in
set_option maxHeartbeats 4000000 in
theorem e_R_asks {N B m : Nat} {ad : Nat → Nat} (hA : MA B m ad) {h0 : Nat → Option JCell} {c : Nat × Nat} : ∀ (v1 : Int32) (v2 : Int32) (T : MT), g_R_asks N B m v1 v2 (ov m ad T h0, c) = Option.map (mV m ad h0 c) (h_R_asks N v1 v2 T) := by
  intro v1 v2 T
  simp only [jlet, g_R_asks, h_R_asks, obd_some, obd_assoc, jgd_true, ov_job, map_obd, map_tbd2, map_ite, map_jlet, map_someV, map_someF, obd_mapV, jbd2_mapF, jbd2_some, tbd2_some, ov_g_62, ov_p_62 hA, e_R_sortOf hA, e_R_asks_21 hA]
set_option maxRecDepth 10000 in
set_option maxHeartbeats 4000000 in
theorem e_R_convert_41 {N B m : Nat} {ad : Nat → Nat} (hA : MA B m ad) {h0 : Nat → Option JCell} {c : Nat × Nat} : ∀ (n : Nat), ∀ (v1 : Int32) (v2 : Int32) (v3 : Int32) (T : MT), g_R_convert_41 N B n m v1 v2 v3 (ov m ad T h0, c) = Option.map (mF m ad h0 c) (h_R_convert_41 N n v1 v2 v3 T) := by
  intro n
  induction n with
  | zero => intros; rfl
  | succ n ih =>
    intro v1 v2 v3 T
    simp only [jlet, g_R_convert_41, h_R_convert_41, obd_some, obd_assoc, jgd_true, ov_job, map_obd, map_tbd2, map_ite, map_jlet, map_someV, map_someF, obd_mapV, jbd2_mapF, jbd2_some, tbd2_some, ov_g_1, ov_g_16, ov_g_42, ov_g_43, ov_g_61, ov_g_62, ov_g_63, ov_a_43 hA, e_R_anew hA, e_R_asks hA, ih]
set_option maxRecDepth 10000 in
set_option maxHeartbeats 4000000 in
theorem e_R_convert {N B m : Nat} {ad : Nat → Nat} (hA : MA B m ad) {h0 : Nat → Option JCell} {c : Nat × Nat} : ∀ (v1 : Int32) (v2 : Int32) (T : MT), g_R_convert N B m v1 v2 (ov m ad T h0, c) = Option.map (mF m ad h0 c) (h_R_convert N v1 v2 T) := by
  intro v1 v2 T
  simp only [jlet, g_R_convert, h_R_convert, obd_some, obd_assoc, jgd_true, ov_job, map_obd, map_tbd2, map_ite, map_jlet, map_someV, map_someF, obd_mapV, jbd2_mapF, jbd2_some, tbd2_some, ov_p_61 hA, ov_p_62 hA, ov_p_63 hA, e_R_isFed hA, e_R_trees hA, e_R_convert_41 hA]
set_option maxRecDepth 10000 in
set_option maxHeartbeats 4000000 in
theorem e_R_measure_204 {N B m : Nat} {ad : Nat → Nat} (hA : MA B m ad) {h0 : Nat → Option JCell} {k64G : Nat → Int32 → Int32 → UInt64 → Int64 → Int32 → Int64 → Int64 → Int32 → (Nat → Option JCell) → Option Int64} {k64H : Int32 → Int32 → UInt64 → Int64 → Int32 → Int64 → Int64 → Int32 → MT → Option Int64} (i64 : ∀ (v1 : Int32) (v2 : Int32) (v4 : UInt64) (v6 : Int64) (v8 : Int32) (v9 : Int64) (v11 : Int64) (v13 : Int32) (T : MT), k64G m v1 v2 v4 v6 v8 v9 v11 v13 (ov m ad T h0) = k64H v1 v2 v4 v6 v8 v9 v11 v13 T) : ∀ (v1 : Int32) (v2 : Int32) (v4 : UInt64) (v6 : Int64) (v8 : Int32) (v9 : Int64) (v11 : Int64) (v13 : Int32) (T : MT), g_R_measure_204 N k64G m v1 v2 v4 v6 v8 v9 v11 v13 (ov m ad T h0) = h_R_measure_204 N k64H v1 v2 v4 v6 v8 v9 v11 v13 T := by
  intro v1 v2 v4 v6 v8 v9 v11 v13 T
  simp only [jlet, g_R_measure_204, h_R_measure_204, obd_some, obd_assoc, jgd_true, ov_job, map_obd, map_tbd2, map_ite, map_jlet, map_someV, map_someF, obd_mapV, jbd2_mapF, jbd2_some, tbd2_some, i64]
set_option maxRecDepth 10000 in
set_option maxHeartbeats 4000000 in
theorem e_R_measure_200 {N B m : Nat} {ad : Nat → Nat} (hA : MA B m ad) {h0 : Nat → Option JCell} {k64G : Nat → Int32 → Int32 → UInt64 → Int64 → Int32 → Int64 → Int64 → Int32 → (Nat → Option JCell) → Option Int64} {k64H : Int32 → Int32 → UInt64 → Int64 → Int32 → Int64 → Int64 → Int32 → MT → Option Int64} (i64 : ∀ (v1 : Int32) (v2 : Int32) (v4 : UInt64) (v6 : Int64) (v8 : Int32) (v9 : Int64) (v11 : Int64) (v13 : Int32) (T : MT), k64G m v1 v2 v4 v6 v8 v9 v11 v13 (ov m ad T h0) = k64H v1 v2 v4 v6 v8 v9 v11 v13 T) : ∀ (v1 : Int32) (v2 : Int32) (v4 : UInt64) (v6 : Int64) (v9 : Int64) (v11 : Int64) (v13 : Int32) (v18 : Int32) (T : MT), g_R_measure_200 N k64G m v1 v2 v4 v6 v9 v11 v13 v18 (ov m ad T h0) = h_R_measure_200 N k64H v1 v2 v4 v6 v9 v11 v13 v18 T := by
  intro v1 v2 v4 v6 v9 v11 v13 v18 T
  simp only [jlet, g_R_measure_200, h_R_measure_200, obd_some, obd_assoc, jgd_true, ov_job, map_obd, map_tbd2, map_ite, map_jlet, map_someV, map_someF, obd_mapV, jbd2_mapF, jbd2_some, tbd2_some, e_R_measure_204 hA (k64G := k64G) (k64H := k64H) i64]
set_option maxRecDepth 10000 in
set_option maxHeartbeats 4000000 in
theorem e_R_measure_176 {N B m : Nat} {ad : Nat → Nat} (hA : MA B m ad) {h0 : Nat → Option JCell} {k64G : Nat → Int32 → Int32 → UInt64 → Int64 → Int32 → Int64 → Int64 → Int32 → (Nat → Option JCell) → Option Int64} {k64H : Int32 → Int32 → UInt64 → Int64 → Int32 → Int64 → Int64 → Int32 → MT → Option Int64} (i64 : ∀ (v1 : Int32) (v2 : Int32) (v4 : UInt64) (v6 : Int64) (v8 : Int32) (v9 : Int64) (v11 : Int64) (v13 : Int32) (T : MT), k64G m v1 v2 v4 v6 v8 v9 v11 v13 (ov m ad T h0) = k64H v1 v2 v4 v6 v8 v9 v11 v13 T) : ∀ (v1 : Int32) (v2 : Int32) (v4 : UInt64) (v6 : Int64) (v8 : Int32) (v9 : Int64) (v11 : Int64) (v13 : Int32) (s0 : Int32) (T : MT), g_R_measure_176 N k64G m v1 v2 v4 v6 v8 v9 v11 v13 s0 (ov m ad T h0) = h_R_measure_176 N k64H v1 v2 v4 v6 v8 v9 v11 v13 s0 T := by
  intro v1 v2 v4 v6 v8 v9 v11 v13 s0 T
  simp only [jlet, g_R_measure_176, h_R_measure_176, obd_some, obd_assoc, jgd_true, ov_job, map_obd, map_tbd2, map_ite, map_jlet, map_someV, map_someF, obd_mapV, jbd2_mapF, jbd2_some, tbd2_some, e_R_measure_200 hA (k64G := k64G) (k64H := k64H) i64, e_R_measure_204 hA (k64G := k64G) (k64H := k64H) i64]
set_option maxRecDepth 10000 in
set_option maxHeartbeats 4000000 in
theorem e_R_measure_151 {N B m : Nat} {ad : Nat → Nat} (hA : MA B m ad) {h0 : Nat → Option JCell} {k64G : Nat → Int32 → Int32 → UInt64 → Int64 → Int32 → Int64 → Int64 → Int32 → (Nat → Option JCell) → Option Int64} {k64H : Int32 → Int32 → UInt64 → Int64 → Int32 → Int64 → Int64 → Int32 → MT → Option Int64} (i64 : ∀ (v1 : Int32) (v2 : Int32) (v4 : UInt64) (v6 : Int64) (v8 : Int32) (v9 : Int64) (v11 : Int64) (v13 : Int32) (T : MT), k64G m v1 v2 v4 v6 v8 v9 v11 v13 (ov m ad T h0) = k64H v1 v2 v4 v6 v8 v9 v11 v13 T) : ∀ (v1 : Int32) (v2 : Int32) (v4 : UInt64) (v6 : Int64) (v8 : Int32) (v9 : Int64) (v13 : Int32) (v14 : UInt64) (s0 : Int64) (T : MT), g_R_measure_151 N k64G m v1 v2 v4 v6 v8 v9 v13 v14 s0 (ov m ad T h0) = h_R_measure_151 N k64H v1 v2 v4 v6 v8 v9 v13 v14 s0 T := by
  intro v1 v2 v4 v6 v8 v9 v13 v14 s0 T
  simp only [jlet, g_R_measure_151, h_R_measure_151, obd_some, obd_assoc, jgd_true, ov_job, map_obd, map_tbd2, map_ite, map_jlet, map_someV, map_someF, obd_mapV, jbd2_mapF, jbd2_some, tbd2_some, e_R_measure_176 hA (k64G := k64G) (k64H := k64H) i64]
set_option maxRecDepth 10000 in
set_option maxHeartbeats 4000000 in
theorem e_R_measure_134 {N B m : Nat} {ad : Nat → Nat} (hA : MA B m ad) {h0 : Nat → Option JCell} {k64G : Nat → Int32 → Int32 → UInt64 → Int64 → Int32 → Int64 → Int64 → Int32 → (Nat → Option JCell) → Option Int64} {k64H : Int32 → Int32 → UInt64 → Int64 → Int32 → Int64 → Int64 → Int32 → MT → Option Int64} (i64 : ∀ (v1 : Int32) (v2 : Int32) (v4 : UInt64) (v6 : Int64) (v8 : Int32) (v9 : Int64) (v11 : Int64) (v13 : Int32) (T : MT), k64G m v1 v2 v4 v6 v8 v9 v11 v13 (ov m ad T h0) = k64H v1 v2 v4 v6 v8 v9 v11 v13 T) : ∀ (v1 : Int32) (v2 : Int32) (v4 : UInt64) (v6 : Int64) (v8 : Int32) (v11 : Int64) (v13 : Int32) (v14 : UInt64) (s0 : Int64) (T : MT), g_R_measure_134 N k64G m v1 v2 v4 v6 v8 v11 v13 v14 s0 (ov m ad T h0) = h_R_measure_134 N k64H v1 v2 v4 v6 v8 v11 v13 v14 s0 T := by
  intro v1 v2 v4 v6 v8 v11 v13 v14 s0 T
  simp only [jlet, g_R_measure_134, h_R_measure_134, obd_some, obd_assoc, jgd_true, ov_job, map_obd, map_tbd2, map_ite, map_jlet, map_someV, map_someF, obd_mapV, jbd2_mapF, jbd2_some, tbd2_some, e_R_measure_151 hA (k64G := k64G) (k64H := k64H) i64]
set_option maxRecDepth 10000 in
set_option maxHeartbeats 4000000 in
theorem e_R_measure_119 {N B m : Nat} {ad : Nat → Nat} (hA : MA B m ad) {h0 : Nat → Option JCell} {k64G : Nat → Int32 → Int32 → UInt64 → Int64 → Int32 → Int64 → Int64 → Int32 → (Nat → Option JCell) → Option Int64} {k64H : Int32 → Int32 → UInt64 → Int64 → Int32 → Int64 → Int64 → Int32 → MT → Option Int64} (i64 : ∀ (v1 : Int32) (v2 : Int32) (v4 : UInt64) (v6 : Int64) (v8 : Int32) (v9 : Int64) (v11 : Int64) (v13 : Int32) (T : MT), k64G m v1 v2 v4 v6 v8 v9 v11 v13 (ov m ad T h0) = k64H v1 v2 v4 v6 v8 v9 v11 v13 T) : ∀ (v1 : Int32) (v2 : Int32) (v4 : UInt64) (v6 : Int64) (v8 : Int32) (v9 : Int64) (v11 : Int64) (v13 : Int32) (v14 : UInt64) (T : MT), g_R_measure_119 N k64G m v1 v2 v4 v6 v8 v9 v11 v13 v14 (ov m ad T h0) = h_R_measure_119 N k64H v1 v2 v4 v6 v8 v9 v11 v13 v14 T := by
  intro v1 v2 v4 v6 v8 v9 v11 v13 v14 T
  simp only [jlet, g_R_measure_119, h_R_measure_119, obd_some, obd_assoc, jgd_true, ov_job, map_obd, map_tbd2, map_ite, map_jlet, map_someV, map_someF, obd_mapV, jbd2_mapF, jbd2_some, tbd2_some, e_R_measure_134 hA (k64G := k64G) (k64H := k64H) i64]
set_option maxRecDepth 10000 in
set_option maxHeartbeats 4000000 in
theorem e_R_measure_64 {N B m : Nat} {ad : Nat → Nat} (hA : MA B m ad) {h0 : Nat → Option JCell} : ∀ (n : Nat), ∀ (v1 : Int32) (v2 : Int32) (v4 : UInt64) (v6 : Int64) (v8 : Int32) (v9 : Int64) (v11 : Int64) (v13 : Int32) (T : MT), g_R_measure_64 N n m v1 v2 v4 v6 v8 v9 v11 v13 (ov m ad T h0) = h_R_measure_64 N n v1 v2 v4 v6 v8 v9 v11 v13 T := by
  intro n
  induction n with
  | zero => intros; rfl
  | succ n ih =>
    intro v1 v2 v4 v6 v8 v9 v11 v13 T
    simp only [jlet, g_R_measure_64, h_R_measure_64, obd_some, obd_assoc, jgd_true, ov_job, map_obd, map_tbd2, map_ite, map_jlet, map_someV, map_someF, obd_mapV, jbd2_mapF, jbd2_some, tbd2_some, ov_g_17, ov_g_27, ov_g_28, ov_a_17 hA, ov_a_27 hA, ov_a_28 hA, g_R_sizeOf, e_R_sortOf hA, e_R_measure_119 hA (k64G := g_R_measure_64 N n) (k64H := h_R_measure_64 N n) ih]
set_option maxRecDepth 10000 in
set_option maxHeartbeats 4000000 in
theorem e_R_measure_45 {N B m : Nat} {ad : Nat → Nat} (hA : MA B m ad) {h0 : Nat → Option JCell} : ∀ (v1 : Int32) (v2 : Int32) (s0 : Int32) (T : MT), g_R_measure_45 N m v1 v2 s0 (ov m ad T h0) = h_R_measure_45 N v1 v2 s0 T := by
  intro v1 v2 s0 T
  simp only [jlet, g_R_measure_45, h_R_measure_45, obd_some, obd_assoc, jgd_true, ov_job, map_obd, map_tbd2, map_ite, map_jlet, map_someV, map_someF, obd_mapV, jbd2_mapF, jbd2_some, tbd2_some, e_R_measure_64 hA]
set_option maxRecDepth 10000 in
set_option maxHeartbeats 4000000 in
theorem e_R_measure {N B m : Nat} {ad : Nat → Nat} (hA : MA B m ad) {h0 : Nat → Option JCell} : ∀ (v1 : Int32) (v2 : Int32) (T : MT), g_R_measure N m v1 v2 (ov m ad T h0) = h_R_measure N v1 v2 T := by
  intro v1 v2 T
  simp only [jlet, g_R_measure, h_R_measure, obd_some, obd_assoc, jgd_true, ov_job, map_obd, map_tbd2, map_ite, map_jlet, map_someV, map_someF, obd_mapV, jbd2_mapF, jbd2_some, tbd2_some, ov_g_28, ov_a_28 hA, e_R_isChain hA, e_R_measure_45 hA]
set_option maxRecDepth 10000 in
set_option maxHeartbeats 4000000 in
theorem e_R_count {B m : Nat} {ad : Nat → Nat} (hA : MA B m ad) {h0 : Nat → Option JCell} : ∀ (v1 : Int32) (T : MT), g_R_count m v1 (ov m ad T h0) = h_R_count v1 T := by
  intro v1 T
  simp only [jlet, g_R_count, h_R_count, obd_some, obd_assoc, jgd_true, ov_job, map_obd, map_tbd2, map_ite, map_jlet, map_someV, map_someF, obd_mapV, jbd2_mapF, jbd2_some, tbd2_some, ov_g_1, ov_g_16, ov_g_44]
set_option maxRecDepth 10000 in
set_option maxHeartbeats 4000000 in
theorem e_R_chain_2 {B m : Nat} {ad : Nat → Nat} (hA : MA B m ad) {h0 : Nat → Option JCell} : ∀ (v1 : Int32) (v2 : Int32) (T : MT), g_R_chain_2 m v1 v2 (ov m ad T h0) = h_R_chain_2 v1 v2 T := by
  intro v1 v2 T
  simp only [jlet, g_R_chain_2, h_R_chain_2, obd_some, obd_assoc, jgd_true, ov_job, map_obd, map_tbd2, map_ite, map_jlet, map_someV, map_someF, obd_mapV, jbd2_mapF, jbd2_some, tbd2_some, ov_g_17, ov_g_19, ov_g_20, ov_g_28, ov_a_17 hA, ov_a_19 hA, ov_a_20 hA, ov_a_28 hA, e_R_isChain hA, e_R_sortOf hA]
