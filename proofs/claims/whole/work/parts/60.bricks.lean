/-! bricks: both find the same, on -/
section BRICKS
variable {M : MS} {np : Nat}
/-- what can be done in the years can be done in the order of the rooms -/
theorem cb_fz {b : Int32} {bb now n h : Nat} {B Z : List Nat} {g : Nat → Bool} (hbb : b = nI bb) (b1 : 1 ≤ bb) (b2 : bb ≤ 2000) (hn : M 0 0 = nI now) (hnow : now ≤ 60) (hlen : B.length = n) (h12 : n ≤ 12) (hh : h < 4096) (hv : ∀ p, p ∈ B → M 4 p + M 5 p = nI (ndN M p) ∧ ndN M p ≤ 160 ∧ 30 ≤ ndN M p ∧ dueM M p = nI (dN M p) ∧ dN M p ≤ 60) (hperm : Z.Perm B) (hsrt : srt (rmI M b) Z) (hg : mt (fun k => B.getD k 0) n h g) : cbB M (fun k => B.getD k 0) h n b = true ↔ fz (ndN M) (fun p => (rmI M b p).toInt) g Z 0 := by
  have hmem : ∀ k, k < n → B.getD k 0 ∈ B := fun k hk => by
    rw [List.getD_eq_getElem?_getD, List.getElem?_eq_getElem (by omega)]
    exact List.getElem_mem _
  have hr : ∀ p, p ∈ B → (rmI M b p).toInt = (bb : Int) * ((dN M p : Int) - now + 1) := fun p hp => rm_int hbb b2 hn hnow (hv p hp).2.2.2.1 (hv p hp).2.2.2.2
  have hrle : ∀ p q, p ∈ B → q ∈ B → ((rmI M b p).toInt ≤ (rmI M b q).toInt ↔ dN M p ≤ dN M q) := fun p q hp hq => by
    rw [hr p hp, hr q hq]
    constructor
    · intro z
      have := Int.le_of_mul_le_mul_left z (by omega)
      omega
    · intro z
      exact Int.mul_le_mul_of_nonneg_left (by omega) (by omega)
  have hs : Z.Pairwise (fun x y => (rmI M b x).toInt ≤ (rmI M b y).toInt) := List.Pairwise.imp (fun z => Int32.le_iff_toInt_le.mp z) hsrt
  have hnz : ∀ p, p ∈ B → nzr (ndN M) (fun p => (rmI M b p).toInt) g (rmI M b p).toInt Z = psum (fun k => if h.testBit k = true ∧ dN M (B.getD k 0) ≤ dN M p then ndN M (B.getD k 0) else 0) n := fun p hp => by
    unfold nzr
    rw [lsum_perm hperm]
    have e := psum_list (fun q => if g q = true ∧ (rmI M b q).toInt ≤ (rmI M b p).toInt then ndN M q else 0) B n (by omega)
    rw [List.take_of_length_le (by omega)] at e
    rw [← e]
    refine psum_congr n (fun k hk => ?_)
    have hgk : g (B.getD k 0) = h.testBit k := hg k hk
    simp only [hgk, hrle _ p (hmem k hk) hp]
  rw [fz_iff Z 0 hs]
  have hnd : ∀ y, y ≤ 60 → ndH M (fun k => B.getD k 0) h y n = nI (psum (fun k => if h.testBit k = true ∧ dN M (B.getD k 0) ≤ y then ndN M (B.getD k 0) else 0) n) := fun y hy => ndH_nat hh hy n h12 (fun k hk => ⟨(hv _ (hmem k hk)).1, (hv _ (hmem k hk)).2.2.2.1, (hv _ (hmem k hk)).2.2.2.2⟩)
  have hps : ∀ y, psum (fun k => if h.testBit k = true ∧ dN M (B.getD k 0) ≤ y then ndN M (B.getD k 0) else 0) n ≤ 160 * n := fun y => psum_le n (fun k hk => by
    show (if h.testBit k = true ∧ dN M (B.getD k 0) ≤ y then ndN M (B.getD k 0) else 0) ≤ 160
    split
    · exact (hv _ (hmem k hk)).2.1
    · omega)
  have hrm : ∀ y, now ≤ y → y ≤ 60 → b * (nI y - M 0 0 + 1) = nI (bb * (y - now + 1)) ∧ bb * (y - now + 1) ≤ 122000 := fun y y1 y2 => by
    have : bb * (y - now + 1) ≤ 2000 * 61 := Nat.mul_le_mul b2 (by omega)
    rw [hbb, hn, pk_sub y1, nI_1, pk_mul]
    exact ⟨rfl, by omega⟩
  have cast : ∀ y, now ≤ y → ((bb * (y - now + 1) : Nat) : Int) = (bb : Int) * ((y : Int) - now + 1) := fun y hy => by
    rw [Int.natCast_mul]
    congr 1
    omega
  constructor
  · intro hc p hp hgp
    have hpB := hperm.mem_iff.mp hp
    obtain ⟨k, k1, k2⟩ := List.mem_iff_getElem.mp hpB
    have k3 : B.getD k 0 = p := by rw [List.getD_eq_getElem?_getD, List.getElem?_eq_getElem k1]; exact k2
    have hbit : h.testBit k = true := by rw [← hg k (by omega)]; show g (B.getD k 0) = true; rw [k3]; exact hgp
    obtain ⟨v1, v2, v3, v4, v5⟩ := hv p hpB
    have hy := List.all_eq_true.mp hc (dN M p) (List.mem_range.mpr (by omega))
    unfold okY at hy
    simp only [Bool.or_eq_true, Bool.and_eq_true, decide_eq_true_eq, Bool.not_eq_true', decide_eq_false_iff_not] at hy
    rcases hy with z | ⟨z1, z2⟩
    · refine absurd ?_ ((smH_iff hh n h12).mp z k (by omega))
      refine ⟨hbit, ?_⟩
      show dueM M (B.getD k 0) ≤ _
      rw [k3, v4]
      exact nI_le (Nat.le_refl _) (by omega)
    · have hny : now ≤ dN M p := by
        rw [hn] at z1
        exact Nat.le_of_not_lt (fun w => z1 (nI_lt w (by omega)))
      obtain ⟨q1, q2⟩ := hrm (dN M p) hny v5
      rw [hnd _ v5, q1] at z2
      have z3 := (nI_leI (by have := hps (dN M p); omega) (by omega)).mp z2
      show ((0 + nzr (ndN M) (fun p => (rmI M b p).toInt) g (rmI M b p).toInt Z : Nat) : Int) ≤ (rmI M b p).toInt
      rw [hnz p hpB, hr p hpB, ← cast _ hny, Nat.zero_add]
      exact Int.ofNat_le.mpr z3
  · intro hf
    refine List.all_eq_true.mpr (fun y hy => ?_)
    have hy60 : y < 61 := List.mem_range.mp hy
    unfold okY
    simp only [Bool.or_eq_true, Bool.and_eq_true, decide_eq_true_eq, Bool.not_eq_true', decide_eq_false_iff_not]
    by_cases c : ∃ k, k < n ∧ (h.testBit k = true ∧ dN M (B.getD k 0) ≤ y)
    · right
      obtain ⟨k, k1, ⟨k2, k3⟩, k4⟩ := max_ex (d := fun k => dN M (B.getD k 0)) n c
      have hpB := hmem k k1
      obtain ⟨v1, v2, v3, v4, v5⟩ := hv _ hpB
      have hgp : g (B.getD k 0) = true := by rw [show g (B.getD k 0) = h.testBit k from hg k k1]; exact k2
      have h1 := hf _ (hperm.mem_iff.mpr hpB) hgp
      have h1 : ((0 + nzr (ndN M) (fun p => (rmI M b p).toInt) g (rmI M b (B.getD k 0)).toInt Z : Nat) : Int) ≤ (rmI M b (B.getD k 0)).toInt := h1
      rw [hnz _ hpB, hr _ hpB, Nat.zero_add] at h1
      have h2 := psum_ge (F := fun j => if h.testBit j = true ∧ dN M (B.getD j 0) ≤ dN M (B.getD k 0) then ndN M (B.getD j 0) else 0) n k k1
      simp only [if_pos (show h.testBit k = true ∧ dN M (B.getD k 0) ≤ dN M (B.getD k 0) from ⟨k2, Nat.le_refl _⟩)] at h2
      have hny : now ≤ dN M (B.getD k 0) := by
        rcases Nat.lt_or_ge (dN M (B.getD k 0)) now with w | w
        · have h3 : (bb : Int) * ((dN M (B.getD k 0) : Int) - now + 1) ≤ (bb : Int) * 0 := Int.mul_le_mul_of_nonneg_left (by omega) (by omega)
          omega
        · exact w
      have esame : psum (fun j => if h.testBit j = true ∧ dN M (B.getD j 0) ≤ y then ndN M (B.getD j 0) else 0) n = psum (fun j => if h.testBit j = true ∧ dN M (B.getD j 0) ≤ dN M (B.getD k 0) then ndN M (B.getD j 0) else 0) n := by
        refine psum_congr n (fun j hj => ?_)
        show (if h.testBit j = true ∧ dN M (B.getD j 0) ≤ y then ndN M (B.getD j 0) else 0) = (if h.testBit j = true ∧ dN M (B.getD j 0) ≤ dN M (B.getD k 0) then ndN M (B.getD j 0) else 0)
        by_cases z : h.testBit j = true ∧ dN M (B.getD j 0) ≤ y
        · rw [if_pos z, if_pos ⟨z.1, k4 j hj z⟩]
        · rw [if_neg z, if_neg (fun w => z ⟨w.1, Nat.le_trans w.2 k3⟩)]
      obtain ⟨q1, q2⟩ := hrm y (by omega) (by omega)
      refine ⟨?_, ?_⟩
      · rw [hn]
        exact fun w => absurd ((nI_ltI (by omega) (by omega)).mp w) (by omega)
      · rw [hnd y (by omega), q1, esame]
        refine nI_le ?_ (by omega)
        rw [← cast _ hny] at h1
        have h4 : bb * (dN M (B.getD k 0) - now + 1) ≤ bb * (y - now + 1) := Nat.mul_le_mul_left bb (by omega)
        have := Int.ofNat_le.mp h1
        omega
    · left
      refine (smH_iff hh n h12).mpr (fun k hk z => c ⟨k, hk, z.1, ?_⟩)
      obtain ⟨v1, v2, v3, v4, v5⟩ := hv _ (hmem k hk)
      have z2 : dueM M (B.getD k 0) ≤ nI y := z.2
      rw [v4] at z2
      exact (nI_leI (by omega) (by omega)).mp z2
end BRICKS
