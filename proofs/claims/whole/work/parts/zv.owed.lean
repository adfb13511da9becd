/-! what is owed of the calls, one by one: all is there -/
/-- what is owed of each call -/
def Owed0 (O : mO) (Inv : Nat → mH → Prop) : Prop :=
  (∀ (c : Nat) (K : mH) (a1 : Int32), c < 512 → Inv c K → Bo O Inv MX10_vault MX11_vault [.int a1] c K) ∧
  (∀ (c : Nat) (K : mH) (a1 a2 : Int32), c < 512 → Inv c K → Bo O Inv MX10_at MX11_at [.int a1, .int a2] c K) ∧
  (∀ (c : Nat) (K : mH) (a1 : Int32), c < 512 → Inv c K → Bo O Inv MX10_family MX11_family [.int a1] c K) ∧
  (∀ (c : Nat) (K : mH) (a1 a2 : Int32), c < 512 → Inv c K → Bo O Inv MX10_has MX11_has [.int a1, .int a2] c K) ∧
  (∀ (c : Nat) (K : mH) (a1 a2 a3 : Int32), c < 512 → Inv c K → Bo O Inv MX10_dead MX11_dead [.int a1, .int a2, .int a3] c K) ∧
  (∀ (c : Nat) (K : mH) (a1 a2 : Int32), c < 512 → Inv c K → Bo O Inv MX10_of MX11_of [.int a1, .int a2] c K) ∧
  (∀ (c : Nat) (K : mH) (a1 a2 a3 : Int32), c < 512 → Inv c K → Bo O Inv MX10_asks MX11_asks [.int a1, .int a2, .int a3] c K)
def Owed1 (O : mO) (Inv : Nat → mH → Prop) : Prop :=
  (∀ (c : Nat) (K : mH) (a1 a2 a3 : Int32), c < 512 → Inv c K → Bo O Inv MX10_wish MX11_wish [.int a1, .int a2, .int a3] c K) ∧
  (∀ (c : Nat) (K : mH) (a1 a2 : Int32), c < 512 → Inv c K → Bo O Inv MX10_terms MX11_terms [.int a1, .int a2] c K) ∧
  (∀ (c : Nat) (K : mH) (a1 a2 a3 a4 a5 : Int32), c < 512 → Inv c K → Bo O Inv MX10_feed MX11_feed [.int a1, .int a2, .int a3, .int a4, .int a5] c K) ∧
  (∀ (c : Nat) (K : mH) (a1 : Int32), c < 512 → Inv c K → Bo O Inv MX10_end MX11_end [.int a1] c K) ∧
  (∀ (c : Nat) (K : mH), c < 512 → Inv c K → Bo O Inv MX10_row MX11_row [] c K) ∧
  (∀ (c : Nat) (K : mH), c < 512 → Inv c K → Bo O Inv MX10_draughts MX11_draughts [] c K) ∧
  (∀ (c : Nat) (K : mH), c < 512 → Inv c K → Bo O Inv MX10_law MX11_law [] c K)
def Owed2 (O : mO) (Inv : Nat → mH → Prop) : Prop :=
  (∀ (c : Nat) (K : mH), c < 512 → Inv c K → Bo O Inv MX10_orders MX11_orders [] c K) ∧
  (∀ (c : Nat) (K : mH), c < 512 → Inv c K → Bo O Inv MX10_fault MX11_fault [] c K) ∧
  (∀ (c : Nat) (K : mH), c < 512 → Inv c K → Bo O Inv MX10_stopped MX11_stopped [] c K) ∧
  (∀ (c : Nat) (K : mH) (a1 : Int32), c < 512 → Inv c K → Bo O Inv MX10_force MX11_force [.int a1] c K) ∧
  (∀ (c : Nat) (K : mH) (a1 : Int32), c < 512 → Inv c K → Bo O Inv MX10_renew MX11_renew [.int a1] c K) ∧
  (∀ (c : Nat) (K : mH) (a1 a2 : Int32), c < 512 → Inv c K → Bo O Inv MX10_lodge MX11_lodge [.int a1, .int a2] c K) ∧
  (∀ (c : Nat) (K : mH) (a1 : Int32), c < 512 → Inv c K → Bo O Inv MX10_knock MX11_knock [.int a1] c K)
def Owed3 (O : mO) (Inv : Nat → mH → Prop) : Prop :=
  (∀ (c : Nat) (K : mH), c < 512 → Inv c K → Bo O Inv MX10_pass MX11_pass [] c K) ∧
  (∀ (c : Nat) (K : mH), c < 512 → Inv c K → Bo O Inv MX10_undo MX11_undo [] c K) ∧
  (∀ (c : Nat) (K : mH) (a1 : Int32), c < 512 → Inv c K → Bo O Inv MX10_inside MX11_inside [.int a1] c K) ∧
  (∀ (c : Nat) (K : mH), c < 512 → Inv c K → Bo O Inv MX10_empty MX11_empty [] c K) ∧
  (∀ (c : Nat) (K : mH) (a1 a2 a3 : Int32), c < 512 → Inv c K → Bo O Inv MX10_keep MX11_keep [.int a1, .int a2, .int a3] c K) ∧
  (∀ (c : Nat) (K : mH) (a1 a2 : Int32), c < 512 → Inv c K → Bo O Inv MX10_when MX11_when [.int a1, .int a2] c K) ∧
  (∀ (c : Nat) (K : mH) (a1 a2 : Int32), c < 512 → Inv c K → Bo O Inv MX10_seen MX11_seen [.int a1, .int a2] c K)
def Owed4 (O : mO) (Inv : Nat → mH → Prop) : Prop :=
  (∀ (c : Nat) (K : mH), c < 512 → Inv c K → Bo O Inv MX10_forget MX11_forget [] c K) ∧
  (∀ (c : Nat) (K : mH), c < 512 → Inv c K → Bo O Inv MX10_stranger MX11_stranger [] c K) ∧
  (∀ (c : Nat) (K : mH) (a1 : Int32), c < 512 → Inv c K → Bo O Inv MX10_look MX11_look [.int a1] c K) ∧
  (∀ (c : Nat) (K : mH) (a1 : Int32), c < 512 → Inv c K → Bo O Inv MX10_rooms MX11_rooms [.int a1] c K) ∧
  (∀ (c : Nat) (K : mH) (a1 : Int32), c < 512 → Inv c K → Bo O Inv MX10_packed MX11_packed [.int a1] c K) ∧
  (∀ (c : Nat) (K : mH) (a1 : Int32), c < 512 → Inv c K → Bo O Inv MX10_changes MX11_changes [.int a1] c K) ∧
  (∀ (c : Nat) (K : mH) (a1 a2 : Int32), c < 512 → Inv c K → BoL O Inv MX10_few MX11_few [.int a1, .int a2] c K)
def Owed5 (O : mO) (Inv : Nat → mH → Prop) : Prop :=
  (∀ (c : Nat) (K : mH) (a1 : Int32), c < 512 → Inv c K → Bo O Inv MX10_compare MX11_compare [.int a1] c K) ∧
  (∀ (c : Nat) (K : mH) (a1 a2 : Int32), c < 512 → Inv c K → Bo O Inv MX10_centuries MX11_centuries [.int a1, .int a2] c K) ∧
  (∀ (c : Nat) (K : mH) (a1 a2 : Int32), c < 512 → Inv c K → Bo O Inv MX10_drawn MX11_drawn [.int a1, .int a2] c K) ∧
  (∀ (c : Nat) (K : mH) (a1 : Int32), c < 512 → Inv c K → Bo O Inv MX10_image MX11_image [.int a1] c K) ∧
  (∀ (c : Nat) (K : mH) (a1 : Int32), c < 512 → Inv c K → Bo O Inv MX10_back MX11_back [.int a1] c K) ∧
  (∀ (c : Nat) (K : mH) (a1 : Int32), c < 512 → Inv c K → Bo O Inv MX10_count MX11_count [.int a1] c K) ∧
  (∀ (c : Nat) (K : mH), c < 512 → Inv c K → Bo O Inv MX10_status MX11_status [] c K)
def OwedB (O : mO) (Inv : Nat → mH → Prop) : Prop := Owed0 O Inv ∧ Owed1 O Inv ∧ Owed2 O Inv ∧ Owed3 O Inv ∧ Owed4 O Inv ∧ Owed5 O Inv
theorem owed_all {L : Nat} {xs : Nat → Int32} {O : mO} (hO : O = mOl L xs) : OwedB O Inv := ⟨⟨fun c K a1 hc hI => b_vault hI, fun c K a1 a2 hc hI => b_at hI, fun c K a1 hc hI => b_family hI, fun c K a1 a2 hc hI => b_has hO hI, fun c K a1 a2 a3 hc hI => b_dead hI, fun c K a1 a2 hc hI => b_of hO hI, fun c K a1 a2 a3 hc hI => b_asks hI⟩, ⟨fun c K a1 a2 a3 hc hI => b_wish hI, fun c K a1 a2 hc hI => b_terms hO hI, fun c K a1 a2 a3 a4 a5 hc hI => b_feed hI, fun c K a1 hc hI => b_end hI, fun c K hc hI => b_row hI, fun c K hc hI => b_draughts hI, fun c K hc hI => b_law hc hI⟩, ⟨fun c K hc hI => b_orders hO hI, fun c K hc hI => b_fault hI, fun c K hc hI => b_stopped hI, fun c K a1 hc hI => b_force hI, fun c K a1 hc hI => b_renew hO hI, fun c K a1 a2 hc hI => b_lodge hI, fun c K a1 hc hI => b_knock hI⟩, ⟨fun c K hc hI => b_pass hO hI, fun c K hc hI => b_undo hI, fun c K a1 hc hI => b_inside hI, fun c K hc hI => b_empty hI, fun c K a1 a2 a3 hc hI => b_keep hO hI, fun c K a1 a2 hc hI => b_when hO hI, fun c K a1 a2 hc hI => b_seen hI⟩, ⟨fun c K hc hI => b_forget hI, fun c K hc hI => b_stranger hI, fun c K a1 hc hI => b_look hI, fun c K a1 hc hI => b_rooms hI, fun c K a1 hc hI => b_packed hI, fun c K a1 hc hI => b_changes hI, fun c K a1 a2 hc hI => b_few hI⟩, ⟨fun c K a1 hc hI => b_compare hO hI, fun c K a1 a2 hc hI => b_centuries hO hI, fun c K a1 a2 hc hI => b_drawn hI, fun c K a1 hc hI => b_image hc hI, fun c K a1 hc hI => b_back hI, fun c K a1 hc hI => b_count hI, fun c K hc hI => b_status hI⟩⟩
theorem Inv_F {c : Nat} {K : mH} (hI : Inv c K) (hc : c ≤ 512) : HpF K ∧ K.2.length ≤ 600000 ∧ K.1 ≤ 7302250 := by
  obtain ⟨u, n, T, I, J, R, g, h, V, F, D, S, N, x, s, rfl, hI⟩ := hI
  have hS := hI.1.1
  have nb := hI.1.2.1
  have ub := hI.1.2.2
  refine ⟨⟨u, n, T, I, J, R, rfl, hS.1, hS.2.1⟩, ?_, ?_⟩
  · rw [hp_len]
    omega
  · show u ≤ 7302250
    omega
theorem Inv_M {c : Nat} {K : mH} (hI : Inv c K) : Inv (c + 1) K := by
  obtain ⟨u, n, T, I, J, R, g, h, V, F, D, S, N, x, s, rfl, hI⟩ := hI
  obtain ⟨⟨s1, s2, s3⟩, s4⟩ := hI
  exact ⟨u, n, T, I, J, R, g, h, V, F, D, S, N, x, s, rfl, ⟨s1, Nat.le_trans s2 (Nat.add_le_add_left (Nat.mul_le_mul_left 16 (Nat.le_succ c)) 98), Nat.le_trans s3 (Nat.add_le_add_left (Nat.mul_le_mul_left 600 (Nat.le_succ c)) 60000)⟩, s4⟩
