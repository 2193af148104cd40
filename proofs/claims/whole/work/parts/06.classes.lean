/-! the thirteen classes, by number -/
def kt_R : Nat → String := fun c => match c with
  | 0 => RX0
  | 1 => RX1
  | 2 => RX2
  | 3 => RX3
  | 4 => RX4
  | 5 => RX5
  | 6 => RX6
  | 7 => RX7
  | 8 => RX8
  | 9 => RX9
  | 10 => RX10
  | 11 => RX11
  | 12 => RX12
  | _ => ""
def kt_T : Nat → u_T := fun c => match c with
  | 0 => TX0
  | 1 => TX1
  | 2 => TX2
  | 3 => TX3
  | 4 => TX4
  | 5 => TX5
  | 6 => TX6
  | 7 => TX7
  | 8 => TX8
  | 9 => TX9
  | 10 => TX10
  | 11 => TX11
  | 12 => TX12
  | _ => TX0
def kt_ty : Nat → (Nat → FieldType) := fun c => match c with
  | 0 => tyX0
  | 1 => tyX1
  | 2 => tyX2
  | 3 => tyX3
  | 4 => tyX4
  | 5 => tyX5
  | 6 => tyX6
  | 7 => tyX7
  | 8 => tyX8
  | 9 => tyX9
  | 10 => tyX10
  | 11 => tyX11
  | 12 => tyX12
  | _ => tyX0
def kt_N : Nat → Nat := fun c => match c with
  | 0 => 3
  | 1 => 3
  | 2 => 3
  | 3 => 4
  | 4 => 18
  | 5 => 4
  | 6 => 2
  | 7 => 7
  | 8 => 16
  | 9 => 4
  | 10 => 7
  | 11 => 20
  | 12 => 65
  | _ => 0
theorem kt_c13 {P : Nat → Prop} (h0 : P 0) (h1 : P 1) (h2 : P 2) (h3 : P 3) (h4 : P 4) (h5 : P 5) (h6 : P 6) (h7 : P 7) (h8 : P 8) (h9 : P 9) (h10 : P 10) (h11 : P 11) (h12 : P 12) : ∀ c, c < 13 → P c := by
  intro c hc
  match c, hc with
  | 0, _ => exact h0
  | 1, _ => exact h1
  | 2, _ => exact h2
  | 3, _ => exact h3
  | 4, _ => exact h4
  | 5, _ => exact h5
  | 6, _ => exact h6
  | 7, _ => exact h7
  | 8, _ => exact h8
  | 9, _ => exact h9
  | 10, _ => exact h10
  | 11, _ => exact h11
  | 12, _ => exact h12
  | n + 13, h => exact absurd h (by omega)
theorem kt_tyok : ∀ c, c < 13 → ∀ k, k < kt_N c → parseFieldDescriptor (kt_T c k).2.2.1 = some (kt_ty c k) := kt_c13 tyX0_ok tyX1_ok tyX2_ok tyX3_ok tyX4_ok tyX5_ok tyX6_ok tyX7_ok tyX8_ok tyX9_ok tyX10_ok tyX11_ok tyX12_ok
theorem kt_nm : ∀ c, c < 13 → ∀ a, a < kt_N c → ∀ b, b < kt_N c → a ≠ b → (kt_T c a).2.1 ≠ (kt_T c b).2.1 := kt_c13 nmX0 nmX1 nmX2 nmX3 nmX4 nmX5 nmX6 nmX7 nmX8 nmX9 nmX10 nmX11 nmX12
theorem kt_in0 : ∀ w ∈ u_ws RX0 TX0 3, w ∈ tw_l := by decide +kernel
theorem kt_in1 : ∀ w ∈ u_ws RX1 TX1 3, w ∈ tw_l := by decide +kernel
theorem kt_in2 : ∀ w ∈ u_ws RX2 TX2 3, w ∈ tw_l := by decide +kernel
theorem kt_in3 : ∀ w ∈ u_ws RX3 TX3 4, w ∈ tw_l := by decide +kernel
theorem kt_in4 : ∀ w ∈ u_ws RX4 TX4 18, w ∈ tw_l := by decide +kernel
theorem kt_in5 : ∀ w ∈ u_ws RX5 TX5 4, w ∈ tw_l := by decide +kernel
theorem kt_in6 : ∀ w ∈ u_ws RX6 TX6 2, w ∈ tw_l := by decide +kernel
theorem kt_in7 : ∀ w ∈ u_ws RX7 TX7 7, w ∈ tw_l := by decide +kernel
theorem kt_in8 : ∀ w ∈ u_ws RX8 TX8 16, w ∈ tw_l := by decide +kernel
theorem kt_in9 : ∀ w ∈ u_ws RX9 TX9 4, w ∈ tw_l := by decide +kernel
theorem kt_in10 : ∀ w ∈ u_ws RX10 TX10 7, w ∈ tw_l := by decide +kernel
theorem kt_in11 : ∀ w ∈ u_ws RX11 TX11 20, w ∈ tw_l := by decide +kernel
theorem kt_in12 : ∀ w ∈ u_ws RX12 TX12 65, w ∈ tw_l := by decide +kernel
theorem kt_in : ∀ c, c < 13 → ∀ w ∈ u_ws (kt_R c) (kt_T c) (kt_N c), w ∈ tw_l := kt_c13 kt_in0 kt_in1 kt_in2 kt_in3 kt_in4 kt_in5 kt_in6 kt_in7 kt_in8 kt_in9 kt_in10 kt_in11 kt_in12
theorem kt_dc : ∀ c, c < 13 → ∀ k, k < kt_N c → (kt_T c k).1 = kt_R c := by decide +kernel
