/-! pure: the law's loop -/
/-- what the class and the reference both know of the likelihoods -/
def js (n : Nat) (M : Nat → Nat) (a : Nat → Nat → Nat) (wo rs : Int32) (kb ta tb : Nat → Int32) (has : Int32) (z : Nat → Int32) (ab : Nat → Nat → Int32) : Prop := (wo = 0 ∧ has = 0) ∨ (wo = 1 ∧ has = 1 ∧ ns n M a ∧ sn (fun i => wt (M i)) n ≤ 480 ∧ ∃ (D : Nat) (N : Nat → Nat), sol n M a D N ∧ rp kb D ∧ rq z 880 D ∧ (∀ i, i < n → rp (ab i) (N i) ∧ rq z (22 * i) (N i)) ∧ ∀ i, i < n → rs = nI i → rp ta (N i / Nat.gcd (N i) D) ∧ rp tb (D / Nat.gcd (N i) D))
def jv (v_wo : Int32) (v_rs : Int32) (v_cs : Int32) (f_cw : Nat → Int32) (f_cl : Nat → Int32) (f_cp : Nat → Int32) (f_ce : Nat → Int32) (v_es : Int32) (v_ed : Int64) (v_rp : Int64) (f_ec : Nat → Int32) (f_ea : Nat → Int64) (f_kb : Nat → Int32) (f_kg : Nat → Int32) (f_ta : Nat → Int32) (f_tb : Nat → Int32) (f_to : Nat → Int32) (f_tw : Nat → Int32) (v_pl : Int32) (f_pt : Nat → Int32) (f_s : Nat → Int32) (v_thrown : Int32) (v_n : Int32) (v_has : Int32) (v_known : Int32) (v_many : Int32) (v_printed : Int32) (f_wholes : Nat → Int32) (f_parts : Nat → Int32) (f_known31 : Nat → Int64) (f_primes : Nat → Int64) (f_rests : Nat → Int64) (f_rows : Nat → Int64) (f_digits : Nat → Int64) (f_z : Nat → Int32) (f_out : Nat → Int32) (f_open : Nat → Int32) (f_o : Nat → Int64) (f_ab : Nat → Nat → Int32) : Prop := ∃ (n : Nat) (M : Nat → Nat) (a : Nat → Nat → Nat) (c L : Nat), v_cs = nI n ∧ v_n = nI n ∧ v_known = nI c ∧ v_pl = nI L ∧ v_printed = nI L ∧ ckr n M a f_cw f_cl f_cp ∧ cmr n M a f_wholes f_parts ∧ kn c f_known31 ∧ L ≤ 301 ∧ (∀ k, k < L → f_pt k = f_out k) ∧ js n M a v_wo v_rs f_kb f_ta f_tb v_has f_z f_ab
theorem nI_cast {i k : Nat} : nI i + nI k = nI (i + k) := nI_add i k
theorem sol480 {n D : Nat} {M : Nat → Nat} {a : Nat → Nat → Nat} {N : Nat → Nat} (h : sol n M a D N) (hw : sn (fun i => wt (M i)) n ≤ 480) : D ≤ 2 ^ 480 := Nat.le_trans h.2.1 (Nat.pow_le_pow_right (by decide) hw)
theorem rq_kp {z z' : Nat → Int32} {r N : Nat} (hr : r ≤ 880) (hz : ∀ s, s < 902 → z' s = z s) (h : rq z r N) : rq z' r N := fun k hk => by rw [hz _ (by omega)]; exact h k hk
theorem sp_dplaces_y {wo rs es pl : Int32} {ed rp' : Int64} {n : Nat} {cw cl cp ce ec kb kg ta tb to_ tw pt fs : Nat → Int32} {ea : Nat → Int64} {ab : Nat → Nat → Int32} {x y : Int32} {post : Int32 → Int32 → (Nat → Int32) → (Nat → Int32) → (Nat → Int32) → (Nat → Int32) → Prop} (hn : n ≤ 40) (hy : y < 0 ∨ ¬ y ≤ 1) (hp : post (-1) rs ta tb to_ tw) : wp_Desk_places post wo (nI n) cw cl cp ce es ed rp' ec ea kb kg pl pt fs ab x y rs ta tb to_ tw := by
  unfold wp_Desk_places wp_Desk_places_17
  refine sp_known hn (fun g i' hi' e => ⟨fun q => absurd q (by decide), fun _ => ⟨fun _ => hp, fun c => ⟨fun c2 => ?_, fun _ => hp⟩⟩⟩) (fun h => ⟨fun _ => hp, fun q => absurd rfl q⟩)
  rcases hy with h | h
  · exact absurd h c
  · exact absurd c2 h
theorem sp_mplaces_y {n : Nat} {x y th vh vk vm vp : Int32} {post : Int32 → Int32 → (Nat → Int32) → Prop} {z : Nat → Int32} (hn : n ≤ 40) (hy : y < 0 ∨ ¬ y ≤ 1) (hp : post (-1) 0 z) : wp_Model_places post (nI n) vh vk vm vp x y th z := by
  unfold wp_Model_places wp_Model_places_17
  refine sp_noLike (by omega) (fun g i' hi' e => ⟨fun _ => ⟨fun _ => hp, fun c => ⟨fun c2 => ?_, fun _ => hp⟩⟩, fun q => absurd rfl q⟩) (fun h => ⟨fun q => absurd q (by decide), fun _ => hp⟩)
  rcases hy with h | h
  · exact absurd h c
  · exact absurd c2 h
section
variable {v_L i : Nat} {f_xs : Nat → Int32} {post : Int32 → Int32 → Int32 → Int32 → (Nat → Int32) → (Nat → Int32) → (Nat → Int32) → (Nat → Int32) → Int32 → Int64 → Int64 → (Nat → Int32) → (Nat → Int64) → (Nat → Int32) → (Nat → Int32) → (Nat → Int32) → (Nat → Int32) → (Nat → Int32) → (Nat → Int32) → Int32 → (Nat → Int32) → (Nat → Int32) → Int32 → Int32 → Int32 → Int32 → Int32 → Int32 → (Nat → Int32) → (Nat → Int32) → (Nat → Int64) → (Nat → Int64) → (Nat → Int64) → (Nat → Int64) → (Nat → Int64) → (Nat → Int32) → (Nat → Int32) → (Nat → Int32) → (Nat → Int64) → (Nat → Nat → Int32) → Prop} {K : Int32 → Int32 → Int32 → Int32 → (Nat → Int32) → (Nat → Int32) → (Nat → Int32) → (Nat → Int32) → Int32 → Int64 → Int64 → (Nat → Int32) → (Nat → Int64) → (Nat → Int32) → (Nat → Int32) → (Nat → Int32) → (Nat → Int32) → (Nat → Int32) → (Nat → Int32) → Int32 → (Nat → Int32) → (Nat → Int32) → Int32 → Int32 → Int32 → Int32 → Int32 → Int32 → (Nat → Int32) → (Nat → Int32) → (Nat → Int64) → (Nat → Int64) → (Nat → Int64) → (Nat → Int64) → (Nat → Int64) → (Nat → Int32) → (Nat → Int32) → (Nat → Int32) → (Nat → Int64) → (Nat → Nat → Int32) → Prop} {v_wo : Int32} {v_rs : Int32} {v_cs : Int32} {f_cw : Nat → Int32} {f_cl : Nat → Int32} {f_cp : Nat → Int32} {f_ce : Nat → Int32} {v_es : Int32} {v_ed : Int64} {v_rp : Int64} {f_ec : Nat → Int32} {f_ea : Nat → Int64} {f_kb : Nat → Int32} {f_kg : Nat → Int32} {f_ta : Nat → Int32} {f_tb : Nat → Int32} {f_to : Nat → Int32} {f_tw : Nat → Int32} {v_pl : Int32} {f_pt : Nat → Int32} {f_s : Nat → Int32} {v_thrown : Int32} {v_n : Int32} {v_has : Int32} {v_known : Int32} {v_many : Int32} {v_printed : Int32} {f_wholes : Nat → Int32} {f_parts : Nat → Int32} {f_known31 : Nat → Int64} {f_primes : Nat → Int64} {f_rests : Nat → Int64} {f_rows : Nat → Int64} {f_digits : Nat → Int64} {f_z : Nat → Int32} {f_out : Nat → Int32} {f_open : Nat → Int32} {f_o : Nat → Int64} {f_ab : Nat → Nat → Int32}
theorem l414 (hK : ∀ (v_wo : Int32) (v_rs : Int32) (v_cs : Int32) (f_cw : Nat → Int32) (f_cl : Nat → Int32) (f_cp : Nat → Int32) (f_ce : Nat → Int32) (v_es : Int32) (v_ed : Int64) (v_rp : Int64) (f_ec : Nat → Int32) (f_ea : Nat → Int64) (f_kb : Nat → Int32) (f_kg : Nat → Int32) (f_ta : Nat → Int32) (f_tb : Nat → Int32) (f_to : Nat → Int32) (f_tw : Nat → Int32) (v_pl : Int32) (f_pt : Nat → Int32) (f_s : Nat → Int32) (v_thrown : Int32) (v_n : Int32) (v_has : Int32) (v_known : Int32) (v_many : Int32) (v_printed : Int32) (f_wholes : Nat → Int32) (f_parts : Nat → Int32) (f_known31 : Nat → Int64) (f_primes : Nat → Int64) (f_rests : Nat → Int64) (f_rows : Nat → Int64) (f_digits : Nat → Int64) (f_z : Nat → Int32) (f_out : Nat → Int32) (f_open : Nat → Int32) (f_o : Nat → Int64) (f_ab : Nat → Nat → Int32), jv v_wo v_rs v_cs f_cw f_cl f_cp f_ce v_es v_ed v_rp f_ec f_ea f_kb f_kg f_ta f_tb f_to f_tw v_pl f_pt f_s v_thrown v_n v_has v_known v_many v_printed f_wholes f_parts f_known31 f_primes f_rests f_rows f_digits f_z f_out f_open f_o f_ab → K (nI (i + 4)) v_wo v_rs v_cs f_cw f_cl f_cp f_ce v_es v_ed v_rp f_ec f_ea f_kb f_kg f_ta f_tb f_to f_tw v_pl f_pt f_s v_thrown v_n v_has v_known v_many v_printed f_wholes f_parts f_known31 f_primes f_rests f_rows f_digits f_z f_out f_open f_o f_ab) (hj : jv v_wo v_rs v_cs f_cw f_cl f_cp f_ce v_es v_ed v_rp f_ec f_ea f_kb f_kg f_ta f_tb f_to f_tw v_pl f_pt f_s v_thrown v_n v_has v_known v_many v_printed f_wholes f_parts f_known31 f_primes f_rests f_rows f_digits f_z f_out f_open f_o f_ab) : wp_Law_law_414 post v_L f_xs K (nI i) v_wo v_rs v_cs f_cw f_cl f_cp f_ce v_es v_ed v_rp f_ec f_ea f_kb f_kg f_ta f_tb f_to f_tw v_pl f_pt f_s v_thrown v_n v_has v_known v_many v_printed f_wholes f_parts f_known31 f_primes f_rests f_rows f_digits f_z f_out f_open f_o f_ab := by
  unfold wp_Law_law_414
  intro z ez
  rw [ez, show (4 : Int32) = nI 4 from rfl, nI_add]
  exact hK _ _ _ _ _ _ _ _ _ _ _ _ _ _ _ _ _ _ _ _ _ _ _ _ _ _ _ _ _ _ _ _ _ _ _ _ _ _ _ hj
theorem lc_88 (hK : ∀ (v_wo : Int32) (v_rs : Int32) (v_cs : Int32) (f_cw : Nat → Int32) (f_cl : Nat → Int32) (f_cp : Nat → Int32) (f_ce : Nat → Int32) (v_es : Int32) (v_ed : Int64) (v_rp : Int64) (f_ec : Nat → Int32) (f_ea : Nat → Int64) (f_kb : Nat → Int32) (f_kg : Nat → Int32) (f_ta : Nat → Int32) (f_tb : Nat → Int32) (f_to : Nat → Int32) (f_tw : Nat → Int32) (v_pl : Int32) (f_pt : Nat → Int32) (f_s : Nat → Int32) (v_thrown : Int32) (v_n : Int32) (v_has : Int32) (v_known : Int32) (v_many : Int32) (v_printed : Int32) (f_wholes : Nat → Int32) (f_parts : Nat → Int32) (f_known31 : Nat → Int64) (f_primes : Nat → Int64) (f_rests : Nat → Int64) (f_rows : Nat → Int64) (f_digits : Nat → Int64) (f_z : Nat → Int32) (f_out : Nat → Int32) (f_open : Nat → Int32) (f_o : Nat → Int64) (f_ab : Nat → Nat → Int32), jv v_wo v_rs v_cs f_cw f_cl f_cp f_ce v_es v_ed v_rp f_ec f_ea f_kb f_kg f_ta f_tb f_to f_tw v_pl f_pt f_s v_thrown v_n v_has v_known v_many v_printed f_wholes f_parts f_known31 f_primes f_rests f_rows f_digits f_z f_out f_open f_o f_ab → K (nI (i + 4)) v_wo v_rs v_cs f_cw f_cl f_cp f_ce v_es v_ed v_rp f_ec f_ea f_kb f_kg f_ta f_tb f_to f_tw v_pl f_pt f_s v_thrown v_n v_has v_known v_many v_printed f_wholes f_parts f_known31 f_primes f_rests f_rows f_digits f_z f_out f_open f_o f_ab) (hb : i + 4 ≤ v_L) (hL : v_L ≤ 2048) (hj : jv v_wo v_rs v_cs f_cw f_cl f_cp f_ce v_es v_ed v_rp f_ec f_ea f_kb f_kg f_ta f_tb f_to f_tw v_pl f_pt f_s v_thrown v_n v_has v_known v_many v_printed f_wholes f_parts f_known31 f_primes f_rests f_rows f_digits f_z f_out f_open f_o f_ab) : wp_Law_law_88 post v_L f_xs K (nI i) v_wo v_rs v_cs f_cw f_cl f_cp f_ce v_es v_ed v_rp f_ec f_ea f_kb f_kg f_ta f_tb f_to f_tw v_pl f_pt f_s v_thrown v_n v_has v_known v_many v_printed f_wholes f_parts f_known31 f_primes f_rests f_rows f_digits f_z f_out f_open f_o f_ab := by
  obtain ⟨n, M, a, c, L, rfl, rfl, rfl, rfl, rfl, hc, hm, hk, hLL, ht, hs⟩ := id hj
  have hn : n ≤ 40 := hc.1.2
  have b1 : vp_in (nI i + 1) v_L := by rw [show (1 : Int32) = nI 1 from rfl, nI_add]; exact vp_in_nI (by omega) (by omega)
  have b2 : vp_in (nI i + 2) v_L := by rw [show (2 : Int32) = nI 2 from rfl, nI_add]; exact vp_in_nI (by omega) (by omega)
  have b3 : vp_in (nI i + 3) v_L := by rw [show (3 : Int32) = nI 3 from rfl, nI_add]; exact vp_in_nI (by omega) (by omega)
  unfold wp_Law_law_88
  generalize f_xs (nI i + 1).toNatClampNeg = x
  refine ⟨b1, ?_⟩
  rcases bg_cases x with ⟨k, g1, g2, e⟩ | h
  · subst e
    refine sp_lbegin_ok g1 g2 (fun fw' fl' fp' hc' => ⟨b1, ?_⟩)
    refine sp_mbegin (fun k2 q1 q2 e2 fw2 fp2 hm2 => ?_) (fun h => absurd h (bg_not g1 g2))
    have e3 := (nI_eq (show k < 2 ^ 31 by omega) (show k2 < 2 ^ 31 by omega)).mp e2
    subst e3
    unfold wp_Model_thrown
    exact ⟨fun _ => l414 hK ⟨k, _, _, c, L, rfl, rfl, rfl, rfl, rfl, hc', hm2, hk, hLL, ht, Or.inl ⟨rfl, rfl⟩⟩, fun q => absurd rfl q⟩
  · refine sp_lbegin_no h ⟨b1, ?_⟩
    refine sp_mbegin (fun k2 q1 q2 e2 fw2 fp2 hm2 => ?_) (fun _ => ?_)
    · rw [e2] at h
      exact absurd h (bg_not q1 q2)
    · unfold wp_Model_thrown
      exact ⟨fun _ => l414 hK ⟨n, M, a, c, L, rfl, rfl, rfl, rfl, rfl, hc, hm, hk, hLL, ht, hs⟩, fun q => absurd rfl q⟩
theorem lc_124 (hK : ∀ (v_wo : Int32) (v_rs : Int32) (v_cs : Int32) (f_cw : Nat → Int32) (f_cl : Nat → Int32) (f_cp : Nat → Int32) (f_ce : Nat → Int32) (v_es : Int32) (v_ed : Int64) (v_rp : Int64) (f_ec : Nat → Int32) (f_ea : Nat → Int64) (f_kb : Nat → Int32) (f_kg : Nat → Int32) (f_ta : Nat → Int32) (f_tb : Nat → Int32) (f_to : Nat → Int32) (f_tw : Nat → Int32) (v_pl : Int32) (f_pt : Nat → Int32) (f_s : Nat → Int32) (v_thrown : Int32) (v_n : Int32) (v_has : Int32) (v_known : Int32) (v_many : Int32) (v_printed : Int32) (f_wholes : Nat → Int32) (f_parts : Nat → Int32) (f_known31 : Nat → Int64) (f_primes : Nat → Int64) (f_rests : Nat → Int64) (f_rows : Nat → Int64) (f_digits : Nat → Int64) (f_z : Nat → Int32) (f_out : Nat → Int32) (f_open : Nat → Int32) (f_o : Nat → Int64) (f_ab : Nat → Nat → Int32), jv v_wo v_rs v_cs f_cw f_cl f_cp f_ce v_es v_ed v_rp f_ec f_ea f_kb f_kg f_ta f_tb f_to f_tw v_pl f_pt f_s v_thrown v_n v_has v_known v_many v_printed f_wholes f_parts f_known31 f_primes f_rests f_rows f_digits f_z f_out f_open f_o f_ab → K (nI (i + 4)) v_wo v_rs v_cs f_cw f_cl f_cp f_ce v_es v_ed v_rp f_ec f_ea f_kb f_kg f_ta f_tb f_to f_tw v_pl f_pt f_s v_thrown v_n v_has v_known v_many v_printed f_wholes f_parts f_known31 f_primes f_rests f_rows f_digits f_z f_out f_open f_o f_ab) (hb : i + 4 ≤ v_L) (hL : v_L ≤ 2048) (hj : jv v_wo v_rs v_cs f_cw f_cl f_cp f_ce v_es v_ed v_rp f_ec f_ea f_kb f_kg f_ta f_tb f_to f_tw v_pl f_pt f_s v_thrown v_n v_has v_known v_many v_printed f_wholes f_parts f_known31 f_primes f_rests f_rows f_digits f_z f_out f_open f_o f_ab) : wp_Law_law_124 post v_L f_xs K (nI i) v_wo v_rs v_cs f_cw f_cl f_cp f_ce v_es v_ed v_rp f_ec f_ea f_kb f_kg f_ta f_tb f_to f_tw v_pl f_pt f_s v_thrown v_n v_has v_known v_many v_printed f_wholes f_parts f_known31 f_primes f_rests f_rows f_digits f_z f_out f_open f_o f_ab := by
  obtain ⟨n, M, a, c, L, rfl, rfl, rfl, rfl, rfl, hc, hm, hk, hLL, ht, hs⟩ := id hj
  have hn : n ≤ 40 := hc.1.2
  have b1 : vp_in (nI i + 1) v_L := by rw [show (1 : Int32) = nI 1 from rfl, nI_add]; exact vp_in_nI (by omega) (by omega)
  have b2 : vp_in (nI i + 2) v_L := by rw [show (2 : Int32) = nI 2 from rfl, nI_add]; exact vp_in_nI (by omega) (by omega)
  have b3 : vp_in (nI i + 3) v_L := by rw [show (3 : Int32) = nI 3 from rfl, nI_add]; exact vp_in_nI (by omega) (by omega)
  unfold wp_Law_law_124
  generalize f_xs (nI i + 1).toNatClampNeg = x
  generalize f_xs (nI i + 2).toNatClampNeg = y
  have bad : ((x < 0 ∨ nI n ≤ x) ∨ y < 1 ∨ ¬ y ≤ 999999999) → (vp_in (nI i + 1) v_L ∧ vp_in (nI i + 2) v_L ∧ wp_Law_whole (fun r_23 u_19 u_20 u_21 u_22 => (vp_in (nI i + 1) v_L ∧ ((vp_in (nI i + 2) v_L ∧ (wp_Model_whole (fun u_26 u_27 u_28 u_29 => wp_Model_thrown (fun r_30 => ((r_30 = r_23 → (wp_Law_law_414 post v_L f_xs K (nI i) u_19 v_rs (nI n) u_20 u_21 u_22 f_ce v_es v_ed v_rp f_ec f_ea f_kb f_kg f_ta f_tb f_to f_tw (nI L) f_pt f_s u_26 (nI n) u_27 (nI c) v_many (nI L) u_28 u_29 f_known31 f_primes f_rests f_rows f_digits f_z f_out f_open f_o f_ab)) ∧ (¬ r_30 = r_23 → (post 0 u_19 v_rs (nI n) u_20 u_21 u_22 f_ce v_es v_ed v_rp f_ec f_ea f_kb f_kg f_ta f_tb f_to f_tw (nI L) f_pt f_s u_26 (nI n) u_27 (nI c) v_many (nI L) u_28 u_29 f_known31 f_primes f_rests f_rows f_digits f_z f_out f_open f_o f_ab)))) u_26 (nI n) u_27 (nI c) v_many (nI L)) (nI n) (nI c) v_many (nI L) x y v_thrown v_has f_wholes f_parts))))) v_rs (nI n) f_ce v_es v_ed v_rp f_ec f_ea f_kb f_kg f_ta f_tb f_to f_tw (nI L) f_pt f_s f_ab x y v_wo f_cw f_cl f_cp) := by
    intro h
    refine ⟨b1, b2, sp_lwhole_no hn h ⟨b1, b2, ?_⟩⟩
    refine sp_mwhole hn hm (fun i' m' q1 e1 q2 q3 e2 fw2 fp2 hm2 => ?_) (fun _ => ?_)
    · rw [e1, e2] at h
      rcases h with h | h
      · exact absurd h (ix_not (by omega) q1)
      · exact absurd h (wh_not (lo := 1) (by omega) q2 q3)
    · unfold wp_Model_thrown
      exact ⟨fun _ => l414 hK ⟨n, M, a, c, L, rfl, rfl, rfl, rfl, rfl, hc, hm, hk, hLL, ht, hs⟩, fun q => absurd rfl q⟩
  rcases ix_cases n (by omega) x with ⟨i', q1, e1⟩ | h
  · rcases wh_cases 1 (by omega) y with ⟨m', q2, q3, e2⟩ | h
    · clear bad
      subst e1; subst e2
      refine ⟨b1, b2, sp_lwhole_ok hc q1 q2 q3 (fun fw' fl' fp' hc' => ⟨b1, b2, ?_⟩)⟩
      refine sp_mwhole hn hm (fun i2 m2 w1 e1 w2 w3 e2 fw2 fp2 hm2 => ?_) (fun h => ?_)
      · have e3 := (nI_eq (show i' < 2 ^ 31 by omega) (show i2 < 2 ^ 31 by omega)).mp e1
        have e4 := (nI_eq (show m' < 2 ^ 31 by omega) (show m2 < 2 ^ 31 by omega)).mp e2
        subst e3; subst e4
        unfold wp_Model_thrown
        exact ⟨fun _ => l414 hK ⟨n, _, _, c, L, rfl, rfl, rfl, rfl, rfl, hc', hm2, hk, hLL, ht, Or.inl ⟨rfl, rfl⟩⟩, fun q => absurd rfl q⟩
      · rcases h with h | h
        · exact absurd h (ix_not (by omega) q1)
        · exact absurd h (wh_not (lo := 1) (by omega) q2 q3)
    · exact bad (Or.inr h)
  · exact bad (Or.inl h)
theorem lc_172 (hK : ∀ (v_wo : Int32) (v_rs : Int32) (v_cs : Int32) (f_cw : Nat → Int32) (f_cl : Nat → Int32) (f_cp : Nat → Int32) (f_ce : Nat → Int32) (v_es : Int32) (v_ed : Int64) (v_rp : Int64) (f_ec : Nat → Int32) (f_ea : Nat → Int64) (f_kb : Nat → Int32) (f_kg : Nat → Int32) (f_ta : Nat → Int32) (f_tb : Nat → Int32) (f_to : Nat → Int32) (f_tw : Nat → Int32) (v_pl : Int32) (f_pt : Nat → Int32) (f_s : Nat → Int32) (v_thrown : Int32) (v_n : Int32) (v_has : Int32) (v_known : Int32) (v_many : Int32) (v_printed : Int32) (f_wholes : Nat → Int32) (f_parts : Nat → Int32) (f_known31 : Nat → Int64) (f_primes : Nat → Int64) (f_rests : Nat → Int64) (f_rows : Nat → Int64) (f_digits : Nat → Int64) (f_z : Nat → Int32) (f_out : Nat → Int32) (f_open : Nat → Int32) (f_o : Nat → Int64) (f_ab : Nat → Nat → Int32), jv v_wo v_rs v_cs f_cw f_cl f_cp f_ce v_es v_ed v_rp f_ec f_ea f_kb f_kg f_ta f_tb f_to f_tw v_pl f_pt f_s v_thrown v_n v_has v_known v_many v_printed f_wholes f_parts f_known31 f_primes f_rests f_rows f_digits f_z f_out f_open f_o f_ab → K (nI (i + 4)) v_wo v_rs v_cs f_cw f_cl f_cp f_ce v_es v_ed v_rp f_ec f_ea f_kb f_kg f_ta f_tb f_to f_tw v_pl f_pt f_s v_thrown v_n v_has v_known v_many v_printed f_wholes f_parts f_known31 f_primes f_rests f_rows f_digits f_z f_out f_open f_o f_ab) (hb : i + 4 ≤ v_L) (hL : v_L ≤ 2048) (hj : jv v_wo v_rs v_cs f_cw f_cl f_cp f_ce v_es v_ed v_rp f_ec f_ea f_kb f_kg f_ta f_tb f_to f_tw v_pl f_pt f_s v_thrown v_n v_has v_known v_many v_printed f_wholes f_parts f_known31 f_primes f_rests f_rows f_digits f_z f_out f_open f_o f_ab) : wp_Law_law_172 post v_L f_xs K (nI i) v_wo v_rs v_cs f_cw f_cl f_cp f_ce v_es v_ed v_rp f_ec f_ea f_kb f_kg f_ta f_tb f_to f_tw v_pl f_pt f_s v_thrown v_n v_has v_known v_many v_printed f_wholes f_parts f_known31 f_primes f_rests f_rows f_digits f_z f_out f_open f_o f_ab := by
  obtain ⟨n, M, a, c, L, rfl, rfl, rfl, rfl, rfl, hc, hm, hk, hLL, ht, hs⟩ := id hj
  have hn : n ≤ 40 := hc.1.2
  have b1 : vp_in (nI i + 1) v_L := by rw [show (1 : Int32) = nI 1 from rfl, nI_add]; exact vp_in_nI (by omega) (by omega)
  have b2 : vp_in (nI i + 2) v_L := by rw [show (2 : Int32) = nI 2 from rfl, nI_add]; exact vp_in_nI (by omega) (by omega)
  have b3 : vp_in (nI i + 3) v_L := by rw [show (3 : Int32) = nI 3 from rfl, nI_add]; exact vp_in_nI (by omega) (by omega)
  unfold wp_Law_law_172
  generalize f_xs (nI i + 1).toNatClampNeg = x
  generalize f_xs (nI i + 2).toNatClampNeg = y
  generalize f_xs (nI i + 3).toNatClampNeg = w
  have no1 : ∀ {i' j' v' : Nat}, i' < n → j' ≤ n → v' ≤ 999999999 → ¬ ((nI i' < 0 ∨ nI n ≤ nI i') ∨ (nI j' < 0 ∨ nI n < nI j') ∨ nI v' < 0 ∨ ¬ nI v' ≤ 999999999) := by
    rintro i' j' v' w1 w2 w3 (h | h | h)
    · exact ix_not (by omega) w1 h
    · exact tg_not (by omega) w2 h
    · exact wh_not (lo := 0) (by omega) (Nat.zero_le v') w3 h
  by_cases hbad : (x < 0 ∨ nI n ≤ x) ∨ (y < 0 ∨ nI n < y) ∨ w < 0 ∨ ¬ w ≤ 999999999
  · refine ⟨b1, b2, b3, sp_lpart_one hn hbad ⟨b1, b2, b3, ?_⟩⟩
    refine sp_mpart (ckr_ok hc) hm (fun i2 j2 v2 w1 e1 w2 e2 w3 e3 _ fp2 _ => ?_) (fun i2 j2 v2 w1 e1 w2 e2 w3 e3 _ => ?_) (fun _ => ?_)
    · rw [e1, e2, e3] at hbad
      exact absurd hbad (no1 w1 w2 w3)
    · rw [e1, e2, e3] at hbad
      exact absurd hbad (no1 w1 w2 w3)
    · unfold wp_Model_thrown
      exact ⟨fun _ => ⟨fun q => absurd q (by decide), fun _ => l414 hK ⟨n, M, a, c, L, rfl, rfl, rfl, rfl, rfl, hc, hm, hk, hLL, ht, hs⟩⟩, fun q => absurd rfl q⟩
  · have hx : ∃ i', i' < n ∧ x = nI i' := by
      rcases ix_cases n (by omega) x with h | h
      · exact h
      · exact absurd (Or.inl h) hbad
    have hy : ∃ j', j' ≤ n ∧ y = nI j' := by
      rcases tg_cases n (by omega) y with h | h
      · exact h
      · exact absurd (Or.inr (Or.inl h)) hbad
    have hw : ∃ v', v' ≤ 999999999 ∧ w = nI v' := by
      rcases wh_cases 0 (by omega) w with ⟨v', -, h, e⟩ | h
      · exact ⟨v', h, e⟩
      · exact absurd (Or.inr (Or.inr h)) hbad
    clear hbad
    obtain ⟨i', q1, e1⟩ := hx
    obtain ⟨j', q2, e2⟩ := hy
    obtain ⟨v', q3, e3⟩ := hw
    subst e1; subst e2; subst e3
    have inj : ∀ {i2 j2 v2 : Nat}, i2 < n → j2 ≤ n → v2 ≤ 999999999 → nI i' = nI i2 → nI j' = nI j2 → nI v' = nI v2 → i2 = i' ∧ j2 = j' ∧ v2 = v' := by
      intro i2 j2 v2 w1 w2 w3 e1 e2 e3
      exact ⟨((nI_eq (by omega) (by omega)).mp e1).symm, ((nI_eq (by omega) (by omega)).mp e2).symm, ((nI_eq (by omega) (by omega)).mp e3).symm⟩
    rcases Nat.lt_or_ge (M i' - sn (a i') (n + 1) + a i' j') v' with hl | hl
    · refine ⟨b1, b2, b3, sp_lpart_two hc q1 q2 q3 hl ⟨b1, b2, b3, ?_⟩⟩
      refine sp_mpart (ckr_ok hc) hm (fun i2 j2 v2 w1 e1 w2 e2 w3 e3 hl2 fp2 _ => ?_) (fun i2 j2 v2 w1 e1 w2 e2 w3 e3 _ => ?_) (fun h => absurd h (no1 q1 q2 q3))
      · obtain ⟨z1, z2, z3⟩ := inj w1 w2 w3 e1 e2 e3
        subst z1; subst z2; subst z3
        omega
      · unfold wp_Model_thrown
        exact ⟨fun _ => ⟨fun q => absurd q (by decide), fun _ => l414 hK ⟨n, M, a, c, L, rfl, rfl, rfl, rfl, rfl, hc, hm, hk, hLL, ht, hs⟩⟩, fun q => absurd rfl q⟩
    · refine ⟨b1, b2, b3, sp_lpart_ok hc q1 q2 q3 hl (fun fl' fp' hc' => ⟨b1, b2, b3, ?_⟩)⟩
      refine sp_mpart (ckr_ok hc) hm (fun i2 j2 v2 w1 e1 w2 e2 w3 e3 hl2 fp2 hm2 => ?_) (fun i2 j2 v2 w1 e1 w2 e2 w3 e3 hl2 => ?_) (fun h => absurd h (no1 q1 q2 q3))
      · obtain ⟨z1, z2, z3⟩ := inj w1 w2 w3 e1 e2 e3
        subst z1; subst z2; subst z3
        unfold wp_Model_thrown
        refine ⟨fun _ => ⟨fun _ => ⟨by unfold vp_in; decide, fun _ => l414 hK ⟨n, M, _, c, L, rfl, rfl, rfl, rfl, rfl, hc', hm2, hk, hLL, ht, Or.inl ⟨rfl, rfl⟩⟩, fun q => absurd ((lg_cmp_eq _ _).mpr (by unfold vp_updL; rw [if_pos rfl])) q⟩, fun q => absurd rfl q⟩, fun q => absurd rfl q⟩
      · obtain ⟨z1, z2, z3⟩ := inj w1 w2 w3 e1 e2 e3
        subst z1; subst z2; subst z3
        omega
theorem lc_252 (hK : ∀ (v_wo : Int32) (v_rs : Int32) (v_cs : Int32) (f_cw : Nat → Int32) (f_cl : Nat → Int32) (f_cp : Nat → Int32) (f_ce : Nat → Int32) (v_es : Int32) (v_ed : Int64) (v_rp : Int64) (f_ec : Nat → Int32) (f_ea : Nat → Int64) (f_kb : Nat → Int32) (f_kg : Nat → Int32) (f_ta : Nat → Int32) (f_tb : Nat → Int32) (f_to : Nat → Int32) (f_tw : Nat → Int32) (v_pl : Int32) (f_pt : Nat → Int32) (f_s : Nat → Int32) (v_thrown : Int32) (v_n : Int32) (v_has : Int32) (v_known : Int32) (v_many : Int32) (v_printed : Int32) (f_wholes : Nat → Int32) (f_parts : Nat → Int32) (f_known31 : Nat → Int64) (f_primes : Nat → Int64) (f_rests : Nat → Int64) (f_rows : Nat → Int64) (f_digits : Nat → Int64) (f_z : Nat → Int32) (f_out : Nat → Int32) (f_open : Nat → Int32) (f_o : Nat → Int64) (f_ab : Nat → Nat → Int32), jv v_wo v_rs v_cs f_cw f_cl f_cp f_ce v_es v_ed v_rp f_ec f_ea f_kb f_kg f_ta f_tb f_to f_tw v_pl f_pt f_s v_thrown v_n v_has v_known v_many v_printed f_wholes f_parts f_known31 f_primes f_rests f_rows f_digits f_z f_out f_open f_o f_ab → K (nI (i + 4)) v_wo v_rs v_cs f_cw f_cl f_cp f_ce v_es v_ed v_rp f_ec f_ea f_kb f_kg f_ta f_tb f_to f_tw v_pl f_pt f_s v_thrown v_n v_has v_known v_many v_printed f_wholes f_parts f_known31 f_primes f_rests f_rows f_digits f_z f_out f_open f_o f_ab) (hb : i + 4 ≤ v_L) (hL : v_L ≤ 2048) (hj : jv v_wo v_rs v_cs f_cw f_cl f_cp f_ce v_es v_ed v_rp f_ec f_ea f_kb f_kg f_ta f_tb f_to f_tw v_pl f_pt f_s v_thrown v_n v_has v_known v_many v_printed f_wholes f_parts f_known31 f_primes f_rests f_rows f_digits f_z f_out f_open f_o f_ab) : wp_Law_law_252 post v_L f_xs K (nI i) v_wo v_rs v_cs f_cw f_cl f_cp f_ce v_es v_ed v_rp f_ec f_ea f_kb f_kg f_ta f_tb f_to f_tw v_pl f_pt f_s v_thrown v_n v_has v_known v_many v_printed f_wholes f_parts f_known31 f_primes f_rests f_rows f_digits f_z f_out f_open f_o f_ab := by
  obtain ⟨n, M, a, c, L, rfl, rfl, rfl, rfl, rfl, hc, hm, hk, hLL, ht, hs⟩ := id hj
  have hn : n ≤ 40 := hc.1.2
  have b1 : vp_in (nI i + 1) v_L := by rw [show (1 : Int32) = nI 1 from rfl, nI_add]; exact vp_in_nI (by omega) (by omega)
  have b2 : vp_in (nI i + 2) v_L := by rw [show (2 : Int32) = nI 2 from rfl, nI_add]; exact vp_in_nI (by omega) (by omega)
  have b3 : vp_in (nI i + 3) v_L := by rw [show (3 : Int32) = nI 3 from rfl, nI_add]; exact vp_in_nI (by omega) (by omega)
  unfold wp_Law_law_252
  rcases hs with ⟨rfl, rfl⟩ | ⟨rfl, rfl, hns, hw, D, N, hsol, hkb, hz, hN, hr⟩
  · have hex : ∃ (D : Nat) (N : Nat → Nat), ns n M a → sol n M a D N := by
      by_cases h : ns n M a
      · obtain ⟨D, N, h2⟩ := sol_ex (ckr_ok hc) h
        exact ⟨D, N, fun _ => h2⟩
      · exact ⟨0, fun _ => 0, fun q => absurd q h⟩
    obtain ⟨D, N, hDN⟩ := hex
    refine sp_dsolve hc hDN (fun q => absurd rfl q) (fun _ h6 => ?_) (fun _ h4 hno ce' => ?_) (fun _ h4 hns ce' es' ed' rp'' ec' ea' kb' kg' ab' k1 k2 => ?_)
    · refine sp_msolve (ckr_ok hc) hm hk hDN (fun _ => ?_) (fun h _ _ => by omega) (fun h _ => by omega)
      exact ⟨fun _ => l414 hK ⟨n, M, a, c, L, rfl, rfl, rfl, rfl, rfl, hc, hm, hk, hLL, ht, Or.inl ⟨rfl, rfl⟩⟩, fun q => absurd rfl q⟩
    · refine sp_msolve (ckr_ok hc) hm hk hDN (fun h => by omega) (fun _ _ fo' => ?_) (fun _ h => absurd h hno)
      exact ⟨fun _ => l414 hK ⟨n, M, a, c, L, rfl, rfl, rfl, rfl, rfl, hc, hm, hk, hLL, ht, Or.inl ⟨rfl, rfl⟩⟩, fun q => absurd rfl q⟩
    · refine sp_msolve (ckr_ok hc) hm hk hDN (fun h => by omega) (fun _ h => absurd hns h) (fun _ _ c' vm' f31' fpr' frs' frw' dgs' z' fo' hk' hz1 hz2 => ?_)
      refine ⟨fun _ => l414 hK ⟨n, M, a, c', L, rfl, rfl, rfl, rfl, rfl, hc, hm, hk', hLL, ht, Or.inr ⟨rfl, rfl, hns, h4, D, N, hDN hns, k1, hz1, fun i hi => ⟨k2 i hi, hz2 i hi⟩, fun i hi e => ?_⟩⟩, fun q => absurd rfl q⟩
      have : (-1 : Int32).toInt = (nI i).toInt := by rw [e]
      rw [nI_toInt (by omega)] at this
      have e1 : (-1 : Int32).toInt = -1 := by decide
      omega
  · refine sp_dsolve hc (fun _ => hsol) (fun _ => ?_) (fun q => absurd q (by decide)) (fun q => absurd q (by decide)) (fun q => absurd q (by decide))
    refine sp_msolve (ckr_ok hc) hm hk (fun _ => hsol) (fun h => by omega) (fun _ h => absurd hns h) (fun _ _ c' vm' f31' fpr' frs' frw' dgs' z' fo' hk' hz1 hz2 => ?_)
    exact ⟨fun _ => l414 hK ⟨n, M, a, c', L, rfl, rfl, rfl, rfl, rfl, hc, hm, hk', hLL, ht, Or.inr ⟨rfl, rfl, hns, hw, D, N, hsol, hkb, hz1, fun i hi => ⟨(hN i hi).1, hz2 i hi⟩, hr⟩⟩, fun q => absurd rfl q⟩
theorem lc_265 (hK : ∀ (v_wo : Int32) (v_rs : Int32) (v_cs : Int32) (f_cw : Nat → Int32) (f_cl : Nat → Int32) (f_cp : Nat → Int32) (f_ce : Nat → Int32) (v_es : Int32) (v_ed : Int64) (v_rp : Int64) (f_ec : Nat → Int32) (f_ea : Nat → Int64) (f_kb : Nat → Int32) (f_kg : Nat → Int32) (f_ta : Nat → Int32) (f_tb : Nat → Int32) (f_to : Nat → Int32) (f_tw : Nat → Int32) (v_pl : Int32) (f_pt : Nat → Int32) (f_s : Nat → Int32) (v_thrown : Int32) (v_n : Int32) (v_has : Int32) (v_known : Int32) (v_many : Int32) (v_printed : Int32) (f_wholes : Nat → Int32) (f_parts : Nat → Int32) (f_known31 : Nat → Int64) (f_primes : Nat → Int64) (f_rests : Nat → Int64) (f_rows : Nat → Int64) (f_digits : Nat → Int64) (f_z : Nat → Int32) (f_out : Nat → Int32) (f_open : Nat → Int32) (f_o : Nat → Int64) (f_ab : Nat → Nat → Int32), jv v_wo v_rs v_cs f_cw f_cl f_cp f_ce v_es v_ed v_rp f_ec f_ea f_kb f_kg f_ta f_tb f_to f_tw v_pl f_pt f_s v_thrown v_n v_has v_known v_many v_printed f_wholes f_parts f_known31 f_primes f_rests f_rows f_digits f_z f_out f_open f_o f_ab → K (nI (i + 4)) v_wo v_rs v_cs f_cw f_cl f_cp f_ce v_es v_ed v_rp f_ec f_ea f_kb f_kg f_ta f_tb f_to f_tw v_pl f_pt f_s v_thrown v_n v_has v_known v_many v_printed f_wholes f_parts f_known31 f_primes f_rests f_rows f_digits f_z f_out f_open f_o f_ab) (hb : i + 4 ≤ v_L) (hL : v_L ≤ 2048) (hj : jv v_wo v_rs v_cs f_cw f_cl f_cp f_ce v_es v_ed v_rp f_ec f_ea f_kb f_kg f_ta f_tb f_to f_tw v_pl f_pt f_s v_thrown v_n v_has v_known v_many v_printed f_wholes f_parts f_known31 f_primes f_rests f_rows f_digits f_z f_out f_open f_o f_ab) : wp_Law_law_265 post v_L f_xs K (nI i) v_wo v_rs v_cs f_cw f_cl f_cp f_ce v_es v_ed v_rp f_ec f_ea f_kb f_kg f_ta f_tb f_to f_tw v_pl f_pt f_s v_thrown v_n v_has v_known v_many v_printed f_wholes f_parts f_known31 f_primes f_rests f_rows f_digits f_z f_out f_open f_o f_ab := by
  obtain ⟨n, M, a, c, L, rfl, rfl, rfl, rfl, rfl, hc, hm, hk, hLL, ht, hs⟩ := id hj
  have hn : n ≤ 40 := hc.1.2
  have b1 : vp_in (nI i + 1) v_L := by rw [show (1 : Int32) = nI 1 from rfl, nI_add]; exact vp_in_nI (by omega) (by omega)
  have b2 : vp_in (nI i + 2) v_L := by rw [show (2 : Int32) = nI 2 from rfl, nI_add]; exact vp_in_nI (by omega) (by omega)
  have b3 : vp_in (nI i + 3) v_L := by rw [show (3 : Int32) = nI 3 from rfl, nI_add]; exact vp_in_nI (by omega) (by omega)
  unfold wp_Law_law_265
  generalize f_xs (nI i + 1).toNatClampNeg = x
  refine ⟨b1, ?_⟩
  by_cases hno : v_wo = 0 ∨ x < 0 ∨ nI n ≤ x
  · have hno2 : v_has = 0 ∨ x < 0 ∨ nI n ≤ x := by
      rcases hno with h | h
      · rcases hs with ⟨_, h2⟩ | ⟨h2, _⟩
        · exact Or.inl h2
        · rw [h2] at h
          exact absurd h (by decide)
      · exact Or.inr h
    refine sp_dprint_no hn hno ⟨b1, sp_mprint_no hn hno2 ?_⟩
    exact ⟨fun _ => l414 hK ⟨n, M, a, c, L, rfl, rfl, rfl, rfl, rfl, hc, hm, hk, hLL, ht, hs⟩, fun q => absurd rfl q⟩
  · rcases hs with ⟨h, _⟩ | ⟨rfl, rfl, hns, hw, D, N, hsol, hkb, hz, hN, hr⟩
    · exact absurd (Or.inl h) hno
    · rcases ix_cases n (by omega) x with ⟨k, q1, e⟩ | h
      · subst e
        clear hno
        have hD := sol480 hsol hw
        refine sp_dprint hn q1 (by decide) hkb (hN k q1).1 (hsol.2.2.2.1 k q1) hsol.1 hD (hr k q1) (fun L1 ta' tb' to' tw' pt' fs' g1 g2 g3 g4 => ⟨b1, ?_⟩)
        refine sp_mprint hn q1 (by decide) (hN k q1).2 hz (hsol.2.2.2.1 k q1) hsol.1 hD (fun L2 z' out' g5 g6 g7 => ?_)
        obtain ⟨e1, e2⟩ := ptx_eq g4 g6
        subst e1
        refine ⟨fun _ => l414 hK ⟨n, M, a, c, L1, rfl, rfl, rfl, rfl, rfl, hc, hm, hk, g1, e2, Or.inr ⟨rfl, rfl, hns, hw, D, N, hsol, hkb, rq_kp (by omega) g7 hz, fun i hi => ⟨(hN i hi).1, rq_kp (by omega) g7 (hN i hi).2⟩, fun i hi e => ?_⟩⟩, fun q => absurd rfl q⟩
        have e3 := (nI_eq (show k < 2 ^ 31 by omega) (show i < 2 ^ 31 by omega)).mp e
        subst e3
        exact ⟨g2, g3⟩
      · exact absurd (Or.inr h) hno
theorem lc_290 (hK : ∀ (v_wo : Int32) (v_rs : Int32) (v_cs : Int32) (f_cw : Nat → Int32) (f_cl : Nat → Int32) (f_cp : Nat → Int32) (f_ce : Nat → Int32) (v_es : Int32) (v_ed : Int64) (v_rp : Int64) (f_ec : Nat → Int32) (f_ea : Nat → Int64) (f_kb : Nat → Int32) (f_kg : Nat → Int32) (f_ta : Nat → Int32) (f_tb : Nat → Int32) (f_to : Nat → Int32) (f_tw : Nat → Int32) (v_pl : Int32) (f_pt : Nat → Int32) (f_s : Nat → Int32) (v_thrown : Int32) (v_n : Int32) (v_has : Int32) (v_known : Int32) (v_many : Int32) (v_printed : Int32) (f_wholes : Nat → Int32) (f_parts : Nat → Int32) (f_known31 : Nat → Int64) (f_primes : Nat → Int64) (f_rests : Nat → Int64) (f_rows : Nat → Int64) (f_digits : Nat → Int64) (f_z : Nat → Int32) (f_out : Nat → Int32) (f_open : Nat → Int32) (f_o : Nat → Int64) (f_ab : Nat → Nat → Int32), jv v_wo v_rs v_cs f_cw f_cl f_cp f_ce v_es v_ed v_rp f_ec f_ea f_kb f_kg f_ta f_tb f_to f_tw v_pl f_pt f_s v_thrown v_n v_has v_known v_many v_printed f_wholes f_parts f_known31 f_primes f_rests f_rows f_digits f_z f_out f_open f_o f_ab → K (nI (i + 4)) v_wo v_rs v_cs f_cw f_cl f_cp f_ce v_es v_ed v_rp f_ec f_ea f_kb f_kg f_ta f_tb f_to f_tw v_pl f_pt f_s v_thrown v_n v_has v_known v_many v_printed f_wholes f_parts f_known31 f_primes f_rests f_rows f_digits f_z f_out f_open f_o f_ab) (hb : i + 4 ≤ v_L) (hL : v_L ≤ 2048) (hj : jv v_wo v_rs v_cs f_cw f_cl f_cp f_ce v_es v_ed v_rp f_ec f_ea f_kb f_kg f_ta f_tb f_to f_tw v_pl f_pt f_s v_thrown v_n v_has v_known v_many v_printed f_wholes f_parts f_known31 f_primes f_rests f_rows f_digits f_z f_out f_open f_o f_ab) : wp_Law_law_290 post v_L f_xs K (nI i) v_wo v_rs v_cs f_cw f_cl f_cp f_ce v_es v_ed v_rp f_ec f_ea f_kb f_kg f_ta f_tb f_to f_tw v_pl f_pt f_s v_thrown v_n v_has v_known v_many v_printed f_wholes f_parts f_known31 f_primes f_rests f_rows f_digits f_z f_out f_open f_o f_ab := by
  obtain ⟨n, M, a, c, L, rfl, rfl, rfl, rfl, rfl, hc, hm, hk, hLL, ht, hs⟩ := id hj
  have hn : n ≤ 40 := hc.1.2
  have b1 : vp_in (nI i + 1) v_L := by rw [show (1 : Int32) = nI 1 from rfl, nI_add]; exact vp_in_nI (by omega) (by omega)
  have b2 : vp_in (nI i + 2) v_L := by rw [show (2 : Int32) = nI 2 from rfl, nI_add]; exact vp_in_nI (by omega) (by omega)
  have b3 : vp_in (nI i + 3) v_L := by rw [show (3 : Int32) = nI 3 from rfl, nI_add]; exact vp_in_nI (by omega) (by omega)
  unfold wp_Law_law_290
  generalize f_xs (nI i + 1).toNatClampNeg = x
  refine ⟨b1, ?_⟩
  refine sp_dchar hLL (fun k q1 e => ⟨b1, ?_⟩) (fun h => ⟨b1, ?_⟩)
  · refine sp_mchar hLL (fun k2 q2 e2 => ?_) (fun h => ?_)
    · rw [e] at e2
      have e3 := (nI_eq (show k < 2 ^ 31 by omega) (show k2 < 2 ^ 31 by omega)).mp e2
      subst e3
      exact ⟨fun _ => l414 hK ⟨n, M, a, c, L, rfl, rfl, rfl, rfl, rfl, hc, hm, hk, hLL, ht, hs⟩, fun q => absurd (ht k q1) q⟩
    · rw [e] at h
      exact absurd h (ix_not (by omega) q1)
  · refine sp_mchar hLL (fun k2 q2 e2 => ?_) (fun _ => ?_)
    · rw [e2] at h
      exact absurd h (ix_not (by omega) q2)
    · exact ⟨fun _ => l414 hK ⟨n, M, a, c, L, rfl, rfl, rfl, rfl, rfl, hc, hm, hk, hLL, ht, hs⟩, fun q => absurd rfl q⟩
end
