section AZP
theorem ob_next {σ : az_S} {p q : Int32} (hw : az_wf σ) (hp : vp_in p (nn σ)) (h : x_X6_next σ p = q) : q = (-1) ∨ (vp_in q (nn σ) ∧ p.toNatClampNeg < q.toNatClampNeg) := by
  subst h
  have hp2 := (az_vp hp hw.2).2.1
  have h12 := hw.2
  unfold x_X6_next
  dsimp only
  refine az_dn_inv (fun w => w = (-1) ∨ (vp_in w (nn σ) ∧ p.toNatClampNeg < w.toNatClampNeg)) (nn σ - 1 - p.toNatClampNeg) (fun n s hn hs => ?_) _ (-1) (Nat.le_refl _) (Or.inl rfl)
  unfold b_X6_next_9
  have h1 : nI (p.toNatClampNeg + n + 1) = (-1) ∨ (vp_in (nI (p.toNatClampNeg + n + 1)) (nn σ) ∧ p.toNatClampNeg < (nI (p.toNatClampNeg + n + 1)).toNatClampNeg) := Or.inr ⟨vp_in_nI (by omega) (by omega), by rw [nI_clamp (by omega)]; omega⟩
  (repeat' split) <;> first | exact hs | exact h1
/-- the length of the chain from p on -/
def ln_go (τ : az_S) : Nat → Int32 → Int32 → Int32
  | 0, m, _ => m
  | n + 1, m, p => if p = (-1) then m else ln_go τ n (m + 1) (x_X6_next τ p)
theorem lp_length {K : az_K} {l0 : Launch} (hT : az_Tb cX6_length tb_X6_length) (hK : az_OK K RX6 cX6_length ({ frames := 3, cells := 0, slots := 0, locals := 70 } : Room) l0) (τ : az_S) (hw : az_wf τ) :
    ∀ (n : Nat) (m p : Int32) (hM : p = (-1) ∨ (vp_in p (nn τ) ∧ nn τ ≤ p.toNatClampNeg + n)) (kx : ∀ s' : Int32, ln_go τ n m p = s' → AW K 0 0 24 [some (.ref 36), some (.int s'), none] [] (wd τ)), AW K 0 0 7 [some (.ref 36), some (.int m), some (.int p)] [] (wd τ) := by
  intro n
  induction n with
  | zero =>
    intro m p hM kx
    have hp : p = (-1) := hM.resolve_right (fun h => by have := (az_vp h.1 hw.2).2.1; omega)
    subst hp
    refine AW_g hT cl_X6 hK 5 2 (pc' := 9) (lo' := [some (.ref 36), some (.int m), some (.int (-1))]) (st' := [.int (-1), .int (-1)]) (hp' := wd τ) rfl ?_
    refine AW_icmp_eq hT hK 7 (tgt := 24) rfl rfl (fun c => ?_) (fun c => absurd rfl c)
    refine AW_msk [true, true, false] (lo' := [some (.ref 36), some (.int m), none]) rfl ?_
    exact kx m rfl
  | succ n ih =>
    intro m p hM kx
    refine AW_g hT cl_X6 hK 5 2 (pc' := 9) (lo' := [some (.ref 36), some (.int m), some (.int p)]) (st' := [.int (-1), .int p]) (hp' := wd τ) rfl ?_
    refine AW_icmp_eq hT hK 7 (tgt := 24) rfl rfl (fun c => ?_) (fun c => ?_)
    · refine AW_msk [true, true, false] (lo' := [some (.ref 36), some (.int m), none]) rfl ?_
      exact kx m (by unfold ln_go; rw [if_pos c])
    · obtain ⟨hv, hn⟩ := hM.resolve_left c
      refine AW_g hT cl_X6 hK 8 3 (pc' := 17) (lo' := [some (.ref 36), some (.int (m + 1)), some (.int p)]) (st' := [.int p, .ref 36]) (hp' := wd τ) rfl ?_
      refine AW_callV hT hK 11 [.int p] [] (m_X6_next l0 τ p hv hw) cw_X6_next lk_X6_104 vi_X6_next rfl rfl rfl rfl rfl rfl (Nat.le_of_ble_eq_true rfl) (Nat.le_of_ble_eq_true rfl) (AW_k1 (fun q hq => ?_))
      refine AW_g hT cl_X6 hK 12 1 (pc' := 21) (lo' := [some (.ref 36), some (.int (m + 1)), some (.int q)]) (st' := []) (hp' := wd τ) rfl ?_
      refine AW_goto hT hK 13 (tgt := 7) rfl rfl ?_
      refine ih (m + 1) q ?_ (fun s' hs' => kx s' ?_)
      · rcases ob_next hw hv hq with h | ⟨h1, h2⟩
        · exact Or.inl h
        · exact Or.inr ⟨h1, by omega⟩
      · unfold ln_go
        rw [if_neg c, hq]
        exact hs'
def x_X6_length (σ : az_S) : Int32 × az_S := (ln_go (x_X6_first σ).2 12 0 (x_X6_first σ).1, (x_X6_first σ).2)
set_option maxRecDepth 100000 in
set_option maxHeartbeats 4000000 in
theorem m_X6_length (l0 : Launch) (σ : az_S) (hw : az_wf σ) : AMet l0 yX6_length cX6_length 3 (some .int) ({ frames := 3, cells := 0, slots := 0, locals := 70 } : Room) false [.ref 36] (wd σ) (fun r h => r = some (.int (x_X6_length σ).1) ∧ h = wd (x_X6_length σ).2) := by
  refine AMet_of (by decide +kernel) (by simp [Value.category]) (Nat.le_of_ble_eq_true rfl) (fun K hK hct hG hE => ?_)
  have hT := tt_X6_length
  refine AW_g hT cl_X6 hK 0 3 (pc' := 3) (lo' := [some (.ref 36), some (.int 0), none]) (st' := [.ref 36]) (hp' := wd σ) rfl ?_
  refine AW_callV hT hK 3 [] [] (m_X6_first l0 σ hw) cw_X6_first lk_X6_101 vi_X6_first rfl rfl rfl rfl rfl rfl (Nat.le_of_ble_eq_true rfl) (Nat.le_of_ble_eq_true rfl) (AW_kiw (fun q hq => ?_))
  have hn : nn q.2 = nn σ := by rw [← hq]; exact az_nn_of (kp_X6_first _)
  have hw3 : az_wf q.2 := by rw [← hq]; exact az_wf_of (kp_X6_first _) hw
  refine AW_g hT cl_X6 hK 4 1 (pc' := 7) (lo' := [some (.ref 36), some (.int 0), some (.int q.1)]) (st' := []) (hp' := wd q.2) rfl ?_
  refine lp_length hT hK q.2 hw3 12 0 q.1 ?_ (fun s' hs' => ?_)
  · rcases ob_first hw hq with h | h
    · exact Or.inl h
    · exact Or.inr ⟨by rw [hn]; exact h, by have := hw3.2; omega⟩
  · refine AW_g hT cl_X6 hK 14 1 (pc' := 25) (lo' := [some (.ref 36), some (.int s'), none]) (st' := [.int s']) (hp' := wd q.2) rfl ?_
    refine AW_iret hT hE 15 rfl rfl rfl (Nat.le_of_ble_eq_true rfl) (Nat.le_of_ble_eq_true rfl) ?_
    subst hs'
    subst hq
    exact ⟨rfl, rfl⟩
theorem kp_X6_length (σ : az_S) : (x_X6_length σ).2.1 8 = σ.1 8 := kp_X6_first σ
/-- the k-th paper of the chain from p on -/
def ch (τ : az_S) : Int32 → Nat → Int32
  | p, 0 => p
  | p, k + 1 => ch τ (x_X6_next τ p) k
/-- within the chain's length each paper is one (told of the model by itself, in the pure part) -/
def mAt_ok (σ : az_S) (p0 : Int32) : Prop :=
  ¬ x_X6_isIn (x_X6_length σ).2 p0 0 ((x_X6_length σ).1 - 1) = 0 → ∀ k : Nat, k < p0.toNatClampNeg → vp_in (ch (x_X6_first (sF (x_X6_length σ).2 9 0)).2 (x_X6_first (sF (x_X6_length σ).2 9 0)).1 k) (nn (x_X6_first (sF (x_X6_length σ).2 9 0)).2)
theorem ob_mainAt {σ : az_S} {p0 v : Int32} {L R : Int32 × az_S} (hch : mAt_ok σ p0) (h1 : x_X6_length σ = L) (h2 : x_X6_isIn L.2 p0 0 (L.1 - 1) = v) (c : ¬ v = 0) (h3 : x_X6_first (sF L.2 9 0) = R) : ∀ k : Nat, 0 + k < p0.toNatClampNeg → vp_in (ch R.2 R.1 k) (nn R.2) := by
  subst h3
  subst h2
  subst h1
  intro k hk
  exact hch c k (by omega)
def x_X6_mainLength (σ : az_S) : Int32 × az_S :=
  let q2 := x_X6_length (sF σ 9 0)
  (q2.1, q2.2)
set_option maxRecDepth 100000 in
set_option maxHeartbeats 4000000 in
theorem m_X6_mainLength (l0 : Launch) (σ : az_S) (hw : az_wf σ) : AMet l0 yX6_mainLength cX6_mainLength 1 (some .int) ({ frames := 4, cells := 0, slots := 0, locals := 92 } : Room) false [.ref 36] (wd σ) (fun r h => r = some (.int (x_X6_mainLength σ).1) ∧ h = wd (x_X6_mainLength σ).2) := by
  refine AMet_of (by decide +kernel) (by simp [Value.category]) (Nat.le_of_ble_eq_true rfl) (fun K hK hct hG hE => ?_)
  have hT := tt_X6_mainLength
  have hw2 := hw.2
  refine AW_g hT cl_X6 hK 0 4 (pc' := 6) (lo' := [some (.ref 36)]) (st' := [.ref 36]) (hp' := wd (sF σ 9 0)) rfl ?_
  refine AW_callV hT hK 4 [] [] (m_X6_length l0 (sF σ 9 0) (hw)) cw_X6_length lk_X6_107 vi_X6_length rfl rfl rfl rfl rfl rfl (Nat.le_of_ble_eq_true rfl) (Nat.le_of_ble_eq_true rfl) (AW_kiw (fun q2 h1 => ?_))
  have hn4 : nn q2.2 = nn σ := by rw [← h1]; exact (az_nn_of (kp_X6_length _)).trans rfl
  have hw3 : az_wf q2.2 := by rw [← h1]; exact az_wf_of (kp_X6_length _) hw
  refine AW_iret hT hE 5 rfl rfl rfl (Nat.le_of_ble_eq_true rfl) (Nat.le_of_ble_eq_true rfl) ?_
  subst h1; exact ⟨by simp only [x_X6_mainLength], by simp only [x_X6_mainLength]⟩
theorem kp_X6_mainLength (σ : az_S) : (x_X6_mainLength σ).2.1 8 = σ.1 8 := by
  unfold x_X6_mainLength
  (try dsimp only)
  (repeat' split) <;> first | (simp [az_k8F, az_k8G, az_k8L, kp_X6_length]; done) | rfl
def b_X6_mainAt_35 (σ : az_S) (d1 : Int32) (i : Nat) (w2 : Int32) : Int32 :=
  let v18 := x_X6_next σ w2
  v18
set_option maxRecDepth 100000 in
set_option maxHeartbeats 4000000 in
theorem lp_X6_mainAt_35 {K : az_K} {l0 : Launch} (hT : az_Tb cX6_mainAt tb_X6_mainAt) (hK : az_OK K RX6 cX6_mainAt ({ frames := 4, cells := 0, slots := 0, locals := 92 } : Room) l0) (σ : az_S) (d1 : Int32) (hw : az_wf σ) :
    ∀ (n i : Nat) (w2 : Int32) (hi : i + n = (d1).toNatClampNeg) (hI : ∀ k : Nat, i + k < d1.toNatClampNeg → vp_in (ch σ w2 k) (nn σ)) (kx : ∀ s' : Int32, az_it (fun ι s => b_X6_mainAt_35 σ d1 ι s) n i w2 = s' → AW K 0 0 52 [some (.ref 36), some (.int d1), some (.int s'), none] [] (wd σ)), AW K 0 0 35 [some (.ref 36), some (.int d1), some (.int w2), some (.int (nI i))] [] (wd σ) := by
  intro n
  induction n with
  | zero =>
    intro i w2 hi hI kx
    have hw2 := hw.2
    refine AW_g hT cl_X6 hK 21 2 (pc' := 37) (lo' := [some (.ref 36), some (.int d1), some (.int w2), some (.int (nI i))]) (st' := [.int d1, .int (nI i)]) (hp' := wd σ) rfl ?_
    refine AW_icmp_ge hT hK 23 (tgt := 52) rfl rfl (fun c19 => ?_) (fun c19 => absurd (az_cv0 hi) c19)
    refine AW_msk [true, true, true, false] (lo' := [some (.ref 36), some (.int d1), some (.int w2), none]) rfl ?_
    exact kx w2 rfl
  | succ n ih =>
    intro i w2 hi hI kx
    have hw2 := hw.2
    refine AW_g hT cl_X6 hK 21 2 (pc' := 37) (lo' := [some (.ref 36), some (.int d1), some (.int w2), some (.int (nI i))]) (st' := [.int d1, .int (nI i)]) (hp' := wd σ) rfl ?_
    refine AW_icmp_ge hT hK 23 (tgt := 52) rfl rfl (fun c16 => absurd c16 (az_cv1 hi)) (fun c16 => ?_)
    refine AW_g hT cl_X6 hK 24 2 (pc' := 42) (lo' := [some (.ref 36), some (.int d1), some (.int w2), some (.int (nI i))]) (st' := [.int w2, .ref 36]) (hp' := wd σ) rfl ?_
    refine AW_callV hT hK 26 [.int w2] [] (m_X6_next l0 σ w2 (hI 0 (by omega)) (hw)) cw_X6_next lk_X6_104 vi_X6_next rfl rfl rfl rfl rfl rfl (Nat.le_of_ble_eq_true rfl) (Nat.le_of_ble_eq_true rfl) (AW_k1 (fun v18 h17 => ?_))
    refine AW_g hT cl_X6 hK 27 2 (pc' := 49) (lo' := [some (.ref 36), some (.int d1), some (.int v18), some (.int ((nI i) + 1))]) (st' := []) (hp' := wd σ) rfl ?_
    refine AW_goto hT hK 29 (tgt := 35) rfl rfl ?_
    refine AW_to (lo' := [some (.ref 36), some (.int d1), some (.int v18), some (.int (nI (i + 1)))]) (by rw [nI_1]) rfl rfl ?_
    subst h17; skip
    exact ih (i + 1) _ (by omega) (fun k hk => hI (k + 1) (by omega)) (fun s' hs' => kx s' ((congrArg (az_it _ n (i + 1)) (by simp only [b_X6_mainAt_35])).trans hs'))
def x_X6_mainAt (σ : az_S) (p0 : Int32) : Int32 × az_S :=
  let q2 := x_X6_length σ
  let v6 := x_X6_isIn q2.2 p0 0 (q2.1 - 1)
  if v6 = 0 then
    (0, (sF q2.2 9 1))
  else
    let q13 := x_X6_first (sF q2.2 9 0)
    let s20 := az_it (fun ι s => b_X6_mainAt_35 q13.2 p0 ι s) p0.toNatClampNeg 0 q13.1
    (s20, q13.2)
set_option maxRecDepth 100000 in
set_option maxHeartbeats 4000000 in
theorem m_X6_mainAt (l0 : Launch) (σ : az_S) (p0 : Int32) (hch : mAt_ok σ p0) (hw : az_wf σ) : AMet l0 yX6_mainAt cX6_mainAt 4 (some .int) ({ frames := 4, cells := 0, slots := 0, locals := 92 } : Room) false [.ref 36, .int p0] (wd σ) (fun r h => r = some (.int (x_X6_mainAt σ p0).1) ∧ h = wd (x_X6_mainAt σ p0).2) := by
  refine AMet_of (by decide +kernel) (by simp [Value.category]) (Nat.le_of_ble_eq_true rfl) (fun K hK hct hG hE => ?_)
  have hT := tt_X6_mainAt
  have hw2 := hw.2
  refine AW_g hT cl_X6 hK 0 4 (pc' := 4) (lo' := [some (.ref 36), some (.int p0), none, none]) (st' := [.ref 36, .int 0, .int p0, .ref 36]) (hp' := wd σ) rfl ?_
  refine AW_callV hT hK 4 [] [.int 0, .int p0, .ref 36] (m_X6_length l0 σ (hw)) cw_X6_length lk_X6_107 vi_X6_length rfl rfl rfl rfl rfl rfl (Nat.le_of_ble_eq_true rfl) (Nat.le_of_ble_eq_true rfl) (AW_kiw (fun q2 h1 => ?_))
  have hn4 : nn q2.2 = nn σ := by rw [← h1]; exact (az_nn_of (kp_X6_length _)).trans rfl
  have hw3 : az_wf q2.2 := by rw [← h1]; exact az_wf_of (kp_X6_length _) hw
  refine AW_g hT cl_X6 hK 5 2 (pc' := 9) (lo' := [some (.ref 36), some (.int p0), none, none]) (st' := [.int (q2.1 - 1), .int 0, .int p0, .ref 36]) (hp' := wd q2.2) rfl ?_
  refine AW_callS hT hK 7 [.int p0, .int 0, .int (q2.1 - 1)] [.ref 36] (m_X6_isIn l0 q2.2 p0 0 (q2.1 - 1) (hw3)) cw_X6_isIn lk_X6_43 sm_X6_isIn rfl rfl rfl rfl (Nat.le_of_ble_eq_true rfl) (Nat.le_of_ble_eq_true rfl) (AW_k1 (fun v6 h5 => ?_))
  refine AW_if_eq hT hK 8 (tgt := 19) rfl rfl (fun c7 => ?_) (fun c7 => ?_)
  · refine AW_g hT cl_X6 hK 11 1 (pc' := 20) (lo' := [some (.ref 36), some (.int p0), none, none]) (st' := [.int 1, .ref 36]) (hp' := wd q2.2) rfl ?_
    refine AW_callV hT hK 12 [.int 1] [] (m_X6_goes l0 q2.2 1 (hw3)) cw_X6_goes lk_X6_51 vi_X6_goes rfl rfl rfl rfl rfl rfl (Nat.le_of_ble_eq_true rfl) (Nat.le_of_ble_eq_true rfl) (AW_kiw2 (goes_1 q2.2) ?_)
    refine AW_if_ne hT hK 13 (tgt := 28) rfl rfl (fun c9 => absurd (by decide) c9) (fun _ => ?_)
    refine AW_g hT cl_X6 hK 14 1 (pc' := 27) (lo' := [some (.ref 36), some (.int p0), none, none]) (st' := [.int 0]) (hp' := wd (sF q2.2 9 1)) rfl ?_
    refine AW_iret hT hE 15 rfl rfl rfl (Nat.le_of_ble_eq_true rfl) (Nat.le_of_ble_eq_true rfl) ?_
    subst h5; subst h1; exact ⟨by simp only [x_X6_mainAt, if_pos c7], by simp only [x_X6_mainAt, if_pos c7]⟩
  · refine AW_g hT cl_X6 hK 9 1 (pc' := 16) (lo' := [some (.ref 36), some (.int p0), none, none]) (st' := [.int 0, .ref 36]) (hp' := wd q2.2) rfl ?_
    refine AW_goto hT hK 10 (tgt := 20) rfl rfl ?_
    refine AW_callV hT hK 12 [.int 0] [] (m_X6_goes l0 q2.2 0 (hw3)) cw_X6_goes lk_X6_51 vi_X6_goes rfl rfl rfl rfl rfl rfl (Nat.le_of_ble_eq_true rfl) (Nat.le_of_ble_eq_true rfl) (AW_kiw2 (goes_0 q2.2) ?_)
    refine AW_if_ne hT hK 13 (tgt := 28) rfl rfl (fun _ => ?_) (fun c11 => absurd c11 (by decide))
    refine AW_g hT cl_X6 hK 16 1 (pc' := 29) (lo' := [some (.ref 36), some (.int p0), none, none]) (st' := [.ref 36]) (hp' := wd (sF q2.2 9 0)) rfl ?_
    refine AW_callV hT hK 17 [] [] (m_X6_first l0 (sF q2.2 9 0) (hw3)) cw_X6_first lk_X6_101 vi_X6_first rfl rfl rfl rfl rfl rfl (Nat.le_of_ble_eq_true rfl) (Nat.le_of_ble_eq_true rfl) (AW_kiw (fun q13 h12 => ?_))
    have hn15 : nn q13.2 = nn σ := by rw [← h12]; exact (az_nn_of (kp_X6_first _)).trans hn4
    have hw14 : az_wf q13.2 := by rw [← h12]; exact az_wf_of (kp_X6_first _) hw3
    refine AW_g hT cl_X6 hK 18 3 (pc' := 35) (lo' := [some (.ref 36), some (.int p0), some (.int q13.1), some (.int 0)]) (st' := []) (hp' := wd q13.2) rfl ?_
    refine AW_to (lo' := [some (.ref 36), some (.int p0), some (.int q13.1), some (.int (nI 0))]) (rfl) rfl rfl ?_
    refine lp_X6_mainAt_35 hT hK q13.2 p0 hw14 p0.toNatClampNeg 0 q13.1 (by first | rfl | omega) (ob_mainAt hch h1 h5 c7 h12) (fun s20 h21 => ?_)
    refine AW_g hT cl_X6 hK 30 1 (pc' := 53) (lo' := [some (.ref 36), some (.int p0), some (.int s20), none]) (st' := [.int s20]) (hp' := wd q13.2) rfl ?_
    refine AW_iret hT hE 31 rfl rfl rfl (Nat.le_of_ble_eq_true rfl) (Nat.le_of_ble_eq_true rfl) ?_
    subst h21; subst h12; subst h5; subst h1; exact ⟨by simp only [x_X6_mainAt, if_neg c7], by simp only [x_X6_mainAt, if_neg c7]⟩
theorem kp_X6_mainAt (σ : az_S) (p0 : Int32) : (x_X6_mainAt σ p0).2.1 8 = σ.1 8 := by
  unfold x_X6_mainAt
  (try dsimp only)
  (repeat' split) <;> first | (simp [az_k8F, az_k8G, az_k8L, kp_X6_first, kp_X6_length]; done) | rfl
end AZP
