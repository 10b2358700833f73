/-! ===== the system (written by program) ===== -/
def m_Q1 (mt : Nat) : Prop := (∀ (j : Nat) (op : mOp), (mPr mt).2 j = some op → m_All (mI mt).1.cls (mI mt).2.1 (mI mt).2.2.1 (mI mt).2.2.2 ((mI mt).1.name == "<init>") (mPs mt) mI j op) ∧ ((mPr mt).2 0 = none ∨ (plainName (mI mt).1.cls = true ∧ (mPr mt).1 = (mI mt).2.2.1 ∧ mPs mt 0 = 0))
def m_AllN (Q : Nat → Prop) : Nat → Nat → Prop
  | _, 0 => True
  | k, n + 1 => Q k ∧ m_AllN Q (k + 1) n
theorem m_AllN.get {Q : Nat → Prop} : ∀ {n k : Nat}, m_AllN Q k n → ∀ i, i < n → Q (k + i)
  | 0, _, _, i, h => by omega
  | n + 1, k, hl, 0, _ => hl.1
  | n + 1, k, hl, i + 1, h => by
    have := m_AllN.get hl.2 i (by omega)
    rwa [show k + 1 + i = k + (i + 1) by omega] at this
theorem sy0 : m_Q1 0 := ⟨fun j op h => m_rowsAll ct0 j op h, Or.inr ⟨by decide +kernel, rfl, rfl⟩⟩
theorem sy1 : m_Q1 1 := ⟨fun j op h => m_rowsAll ct1 j op h, Or.inr ⟨by decide +kernel, rfl, rfl⟩⟩
theorem sy2 : m_Q1 2 := ⟨fun j op h => m_rowsAll ct2 j op h, Or.inr ⟨by decide +kernel, rfl, rfl⟩⟩
theorem sy3 : m_Q1 3 := ⟨fun j op h => m_rowsAll ct3 j op h, Or.inr ⟨by decide +kernel, rfl, rfl⟩⟩
theorem sy4 : m_Q1 4 := ⟨fun j op h => m_rowsAll ct4 j op h, Or.inr ⟨by decide +kernel, rfl, rfl⟩⟩
theorem sy5 : m_Q1 5 := ⟨fun j op h => m_rowsAll ct5 j op h, Or.inr ⟨by decide +kernel, rfl, rfl⟩⟩
theorem sy6 : m_Q1 6 := ⟨fun j op h => m_rowsAll ct6 j op h, Or.inr ⟨by decide +kernel, rfl, rfl⟩⟩
theorem sy7 : m_Q1 7 := ⟨fun j op h => m_rowsAll ct7 j op h, Or.inr ⟨by decide +kernel, rfl, rfl⟩⟩
theorem sy8 : m_Q1 8 := ⟨fun j op h => m_rowsAll ct8 j op h, Or.inr ⟨by decide +kernel, rfl, rfl⟩⟩
theorem sy9 : m_Q1 9 := ⟨fun j op h => m_rowsAll ct9 j op h, Or.inr ⟨by decide +kernel, rfl, rfl⟩⟩
theorem sy10 : m_Q1 10 := ⟨fun j op h => m_rowsAll ct10 j op h, Or.inr ⟨by decide +kernel, rfl, rfl⟩⟩
theorem sy11 : m_Q1 11 := ⟨fun j op h => m_rowsAll ct11 j op h, Or.inr ⟨by decide +kernel, rfl, rfl⟩⟩
theorem sy12 : m_Q1 12 := ⟨fun j op h => m_rowsAll ct12 j op h, Or.inr ⟨by decide +kernel, rfl, rfl⟩⟩
theorem sy13 : m_Q1 13 := ⟨fun j op h => m_rowsAll ct13 j op h, Or.inr ⟨by decide +kernel, rfl, rfl⟩⟩
theorem sy14 : m_Q1 14 := ⟨fun j op h => m_rowsAll ct14 j op h, Or.inr ⟨by decide +kernel, rfl, rfl⟩⟩
theorem sy15 : m_Q1 15 := ⟨fun j op h => m_rowsAll ct15 j op h, Or.inr ⟨by decide +kernel, rfl, rfl⟩⟩
theorem sy16 : m_Q1 16 := ⟨fun j op h => m_rowsAll ct16 j op h, Or.inr ⟨by decide +kernel, rfl, rfl⟩⟩
theorem sy17 : m_Q1 17 := ⟨fun j op h => m_rowsAll ct17 j op h, Or.inr ⟨by decide +kernel, rfl, rfl⟩⟩
theorem sy18 : m_Q1 18 := ⟨fun j op h => m_rowsAll ct18 j op h, Or.inr ⟨by decide +kernel, rfl, rfl⟩⟩
theorem sy19 : m_Q1 19 := ⟨fun j op h => m_rowsAll ct19 j op h, Or.inr ⟨by decide +kernel, rfl, rfl⟩⟩
theorem sy20 : m_Q1 20 := ⟨fun j op h => m_rowsAll ct20 j op h, Or.inr ⟨by decide +kernel, rfl, rfl⟩⟩
theorem sy21 : m_Q1 21 := ⟨fun j op h => m_rowsAll ct21 j op h, Or.inr ⟨by decide +kernel, rfl, rfl⟩⟩
theorem sy22 : m_Q1 22 := ⟨fun j op h => m_rowsAll ct22 j op h, Or.inr ⟨by decide +kernel, rfl, rfl⟩⟩
theorem sy23 : m_Q1 23 := ⟨fun j op h => m_rowsAll ct23 j op h, Or.inr ⟨by decide +kernel, rfl, rfl⟩⟩
theorem sy24 : m_Q1 24 := ⟨fun j op h => m_rowsAll ct24 j op h, Or.inr ⟨by decide +kernel, rfl, rfl⟩⟩
theorem sy25 : m_Q1 25 := ⟨fun j op h => m_rowsAll ct25 j op h, Or.inr ⟨by decide +kernel, rfl, rfl⟩⟩
theorem sy26 : m_Q1 26 := ⟨fun j op h => m_rowsAll ct26 j op h, Or.inr ⟨by decide +kernel, rfl, rfl⟩⟩
theorem sy27 : m_Q1 27 := ⟨fun j op h => m_rowsAll ct27 j op h, Or.inr ⟨by decide +kernel, rfl, rfl⟩⟩
theorem sy28 : m_Q1 28 := ⟨fun j op h => m_rowsAll ct28 j op h, Or.inr ⟨by decide +kernel, rfl, rfl⟩⟩
theorem sy29 : m_Q1 29 := ⟨fun j op h => m_rowsAll ct29 j op h, Or.inr ⟨by decide +kernel, rfl, rfl⟩⟩
theorem sy30 : m_Q1 30 := ⟨fun j op h => m_rowsAll ct30 j op h, Or.inr ⟨by decide +kernel, rfl, rfl⟩⟩
theorem sy31 : m_Q1 31 := ⟨fun j op h => m_rowsAll ct31 j op h, Or.inr ⟨by decide +kernel, rfl, rfl⟩⟩
theorem sy32 : m_Q1 32 := ⟨fun j op h => m_rowsAll ct32 j op h, Or.inr ⟨by decide +kernel, rfl, rfl⟩⟩
theorem sy33 : m_Q1 33 := ⟨fun j op h => m_rowsAll ct33 j op h, Or.inr ⟨by decide +kernel, rfl, rfl⟩⟩
theorem sy34 : m_Q1 34 := ⟨fun j op h => m_rowsAll ct34 j op h, Or.inr ⟨by decide +kernel, rfl, rfl⟩⟩
theorem sy35 : m_Q1 35 := ⟨fun j op h => m_rowsAll ct35 j op h, Or.inr ⟨by decide +kernel, rfl, rfl⟩⟩
theorem sy36 : m_Q1 36 := ⟨fun j op h => m_rowsAll ct36 j op h, Or.inr ⟨by decide +kernel, rfl, rfl⟩⟩
theorem sy37 : m_Q1 37 := ⟨fun j op h => m_rowsAll ct37 j op h, Or.inr ⟨by decide +kernel, rfl, rfl⟩⟩
theorem sy38 : m_Q1 38 := ⟨fun j op h => m_rowsAll ct38 j op h, Or.inr ⟨by decide +kernel, rfl, rfl⟩⟩
theorem sy39 : m_Q1 39 := ⟨fun j op h => m_rowsAll ct39 j op h, Or.inr ⟨by decide +kernel, rfl, rfl⟩⟩
theorem sy40 : m_Q1 40 := ⟨fun j op h => m_rowsAll ct40 j op h, Or.inr ⟨by decide +kernel, rfl, rfl⟩⟩
theorem sy41 : m_Q1 41 := ⟨fun j op h => m_rowsAll ct41 j op h, Or.inr ⟨by decide +kernel, rfl, rfl⟩⟩
theorem sy42 : m_Q1 42 := ⟨fun j op h => m_rowsAll ct42 j op h, Or.inr ⟨by decide +kernel, rfl, rfl⟩⟩
theorem sy43 : m_Q1 43 := ⟨fun j op h => m_rowsAll ct43 j op h, Or.inr ⟨by decide +kernel, rfl, rfl⟩⟩
theorem sy44 : m_Q1 44 := ⟨fun j op h => m_rowsAll ct44 j op h, Or.inr ⟨by decide +kernel, rfl, rfl⟩⟩
theorem sy45 : m_Q1 45 := ⟨fun j op h => m_rowsAll ct45 j op h, Or.inr ⟨by decide +kernel, rfl, rfl⟩⟩
theorem sy46 : m_Q1 46 := ⟨fun j op h => m_rowsAll ct46 j op h, Or.inr ⟨by decide +kernel, rfl, rfl⟩⟩
theorem sy47 : m_Q1 47 := ⟨fun j op h => m_rowsAll ct47 j op h, Or.inr ⟨by decide +kernel, rfl, rfl⟩⟩
theorem sy48 : m_Q1 48 := ⟨fun j op h => m_rowsAll ct48 j op h, Or.inr ⟨by decide +kernel, rfl, rfl⟩⟩
theorem sy49 : m_Q1 49 := ⟨fun j op h => m_rowsAll ct49 j op h, Or.inr ⟨by decide +kernel, rfl, rfl⟩⟩
theorem sy50 : m_Q1 50 := ⟨fun j op h => m_rowsAll ct50 j op h, Or.inr ⟨by decide +kernel, rfl, rfl⟩⟩
theorem sy51 : m_Q1 51 := ⟨fun j op h => m_rowsAll ct51 j op h, Or.inr ⟨by decide +kernel, rfl, rfl⟩⟩
theorem sy52 : m_Q1 52 := ⟨fun j op h => m_rowsAll ct52 j op h, Or.inr ⟨by decide +kernel, rfl, rfl⟩⟩
theorem sy53 : m_Q1 53 := ⟨fun j op h => m_rowsAll ct53 j op h, Or.inr ⟨by decide +kernel, rfl, rfl⟩⟩
theorem sy54 : m_Q1 54 := ⟨fun j op h => m_rowsAll ct54 j op h, Or.inr ⟨by decide +kernel, rfl, rfl⟩⟩
theorem sy55 : m_Q1 55 := ⟨fun j op h => m_rowsAll ct55 j op h, Or.inr ⟨by decide +kernel, rfl, rfl⟩⟩
theorem sy56 : m_Q1 56 := ⟨fun j op h => m_rowsAll ct56 j op h, Or.inr ⟨by decide +kernel, rfl, rfl⟩⟩
theorem sy57 : m_Q1 57 := ⟨fun j op h => m_rowsAll ct57 j op h, Or.inr ⟨by decide +kernel, rfl, rfl⟩⟩
theorem sy58 : m_Q1 58 := ⟨fun j op h => m_rowsAll ct58 j op h, Or.inr ⟨by decide +kernel, rfl, rfl⟩⟩
theorem sy59 : m_Q1 59 := ⟨fun j op h => m_rowsAll ct59 j op h, Or.inr ⟨by decide +kernel, rfl, rfl⟩⟩
theorem sy60 : m_Q1 60 := ⟨fun j op h => m_rowsAll ct60 j op h, Or.inr ⟨by decide +kernel, rfl, rfl⟩⟩
theorem sy61 : m_Q1 61 := ⟨fun j op h => m_rowsAll ct61 j op h, Or.inr ⟨by decide +kernel, rfl, rfl⟩⟩
theorem sy62 : m_Q1 62 := ⟨fun j op h => m_rowsAll ct62 j op h, Or.inr ⟨by decide +kernel, rfl, rfl⟩⟩
theorem sy63 : m_Q1 63 := ⟨fun j op h => m_rowsAll ct63 j op h, Or.inr ⟨by decide +kernel, rfl, rfl⟩⟩
theorem sy64 : m_Q1 64 := ⟨fun j op h => m_rowsAll ct64 j op h, Or.inr ⟨by decide +kernel, rfl, rfl⟩⟩
theorem sy65 : m_Q1 65 := ⟨fun j op h => m_rowsAll ct65 j op h, Or.inr ⟨by decide +kernel, rfl, rfl⟩⟩
theorem sy66 : m_Q1 66 := ⟨fun j op h => m_rowsAll ct66 j op h, Or.inr ⟨by decide +kernel, rfl, rfl⟩⟩
theorem sy67 : m_Q1 67 := ⟨fun j op h => m_rowsAll ct67 j op h, Or.inr ⟨by decide +kernel, rfl, rfl⟩⟩
theorem sy68 : m_Q1 68 := ⟨fun j op h => m_rowsAll ct68 j op h, Or.inr ⟨by decide +kernel, rfl, rfl⟩⟩
theorem sy69 : m_Q1 69 := ⟨fun j op h => m_rowsAll ct69 j op h, Or.inr ⟨by decide +kernel, rfl, rfl⟩⟩
theorem sy70 : m_Q1 70 := ⟨fun j op h => m_rowsAll ct70 j op h, Or.inr ⟨by decide +kernel, rfl, rfl⟩⟩
theorem sy71 : m_Q1 71 := ⟨fun j op h => m_rowsAll ct71 j op h, Or.inr ⟨by decide +kernel, rfl, rfl⟩⟩
theorem sy72 : m_Q1 72 := ⟨fun j op h => m_rowsAll ct72 j op h, Or.inr ⟨by decide +kernel, rfl, rfl⟩⟩
theorem sy73 : m_Q1 73 := ⟨fun j op h => m_rowsAll ct73 j op h, Or.inr ⟨by decide +kernel, rfl, rfl⟩⟩
theorem sy74 : m_Q1 74 := ⟨fun j op h => m_rowsAll ct74 j op h, Or.inr ⟨by decide +kernel, rfl, rfl⟩⟩
theorem sy75 : m_Q1 75 := ⟨fun j op h => m_rowsAll ct75 j op h, Or.inr ⟨by decide +kernel, rfl, rfl⟩⟩
theorem sy76 : m_Q1 76 := ⟨fun j op h => m_rowsAll ct76 j op h, Or.inr ⟨by decide +kernel, rfl, rfl⟩⟩
theorem sy77 : m_Q1 77 := ⟨fun j op h => m_rowsAll ct77 j op h, Or.inr ⟨by decide +kernel, rfl, rfl⟩⟩
theorem sy78 : m_Q1 78 := ⟨fun j op h => m_rowsAll ct78 j op h, Or.inr ⟨by decide +kernel, rfl, rfl⟩⟩
theorem sy79 : m_Q1 79 := ⟨fun j op h => m_rowsAll ct79 j op h, Or.inr ⟨by decide +kernel, rfl, rfl⟩⟩
theorem sy80 : m_Q1 80 := ⟨fun j op h => m_rowsAll ct80 j op h, Or.inr ⟨by decide +kernel, rfl, rfl⟩⟩
theorem sy81 : m_Q1 81 := ⟨fun j op h => m_rowsAll ct81 j op h, Or.inr ⟨by decide +kernel, rfl, rfl⟩⟩
theorem sy82 : m_Q1 82 := ⟨fun j op h => m_rowsAll ct82 j op h, Or.inr ⟨by decide +kernel, rfl, rfl⟩⟩
theorem sy83 : m_Q1 83 := ⟨fun j op h => m_rowsAll ct83 j op h, Or.inr ⟨by decide +kernel, rfl, rfl⟩⟩
theorem sy84 : m_Q1 84 := ⟨fun j op h => m_rowsAll ct84 j op h, Or.inr ⟨by decide +kernel, rfl, rfl⟩⟩
theorem sy85 : m_Q1 85 := ⟨fun j op h => m_rowsAll ct85 j op h, Or.inr ⟨by decide +kernel, rfl, rfl⟩⟩
theorem sy86 : m_Q1 86 := ⟨fun j op h => m_rowsAll ct86 j op h, Or.inr ⟨by decide +kernel, rfl, rfl⟩⟩
theorem sy87 : m_Q1 87 := ⟨fun j op h => m_rowsAll ct87 j op h, Or.inr ⟨by decide +kernel, rfl, rfl⟩⟩
theorem sy88 : m_Q1 88 := ⟨fun j op h => m_rowsAll ct88 j op h, Or.inr ⟨by decide +kernel, rfl, rfl⟩⟩
theorem sy89 : m_Q1 89 := ⟨fun j op h => m_rowsAll ct89 j op h, Or.inr ⟨by decide +kernel, rfl, rfl⟩⟩
theorem sy90 : m_Q1 90 := ⟨fun j op h => m_rowsAll ct90 j op h, Or.inr ⟨by decide +kernel, rfl, rfl⟩⟩
theorem sy91 : m_Q1 91 := ⟨fun j op h => m_rowsAll ct91 j op h, Or.inr ⟨by decide +kernel, rfl, rfl⟩⟩
theorem sy92 : m_Q1 92 := ⟨fun j op h => m_rowsAll ct92 j op h, Or.inr ⟨by decide +kernel, rfl, rfl⟩⟩
theorem sy93 : m_Q1 93 := ⟨fun j op h => m_rowsAll ct93 j op h, Or.inr ⟨by decide +kernel, rfl, rfl⟩⟩
theorem sy94 : m_Q1 94 := ⟨fun j op h => m_rowsAll ct94 j op h, Or.inr ⟨by decide +kernel, rfl, rfl⟩⟩
theorem sy95 : m_Q1 95 := ⟨fun j op h => m_rowsAll ct95 j op h, Or.inr ⟨by decide +kernel, rfl, rfl⟩⟩
theorem sy96 : m_Q1 96 := ⟨fun j op h => m_rowsAll ct96 j op h, Or.inr ⟨by decide +kernel, rfl, rfl⟩⟩
theorem sy97 : m_Q1 97 := ⟨fun j op h => m_rowsAll ct97 j op h, Or.inr ⟨by decide +kernel, rfl, rfl⟩⟩
theorem sy98 : m_Q1 98 := ⟨fun j op h => m_rowsAll ct98 j op h, Or.inr ⟨by decide +kernel, rfl, rfl⟩⟩
theorem sy99 : m_Q1 99 := ⟨fun j op h => m_rowsAll ct99 j op h, Or.inr ⟨by decide +kernel, rfl, rfl⟩⟩
theorem sy100 : m_Q1 100 := ⟨fun j op h => m_rowsAll ct100 j op h, Or.inr ⟨by decide +kernel, rfl, rfl⟩⟩
theorem sy101 : m_Q1 101 := ⟨fun j op h => m_rowsAll ct101 j op h, Or.inr ⟨by decide +kernel, rfl, rfl⟩⟩
theorem sy102 : m_Q1 102 := ⟨fun j op h => m_rowsAll ct102 j op h, Or.inr ⟨by decide +kernel, rfl, rfl⟩⟩
theorem sy103 : m_Q1 103 := ⟨fun j op h => m_rowsAll ct103 j op h, Or.inr ⟨by decide +kernel, rfl, rfl⟩⟩
theorem sy104 : m_Q1 104 := ⟨fun j op h => m_rowsAll ct104 j op h, Or.inr ⟨by decide +kernel, rfl, rfl⟩⟩
theorem sy105 : m_Q1 105 := ⟨fun j op h => m_rowsAll ct105 j op h, Or.inr ⟨by decide +kernel, rfl, rfl⟩⟩
theorem sy106 : m_Q1 106 := ⟨fun j op h => m_rowsAll ct106 j op h, Or.inr ⟨by decide +kernel, rfl, rfl⟩⟩
theorem sy107 : m_Q1 107 := ⟨fun j op h => m_rowsAll ct107 j op h, Or.inr ⟨by decide +kernel, rfl, rfl⟩⟩
theorem sy108 : m_Q1 108 := ⟨fun j op h => m_rowsAll ct108 j op h, Or.inr ⟨by decide +kernel, rfl, rfl⟩⟩
theorem sy109 : m_Q1 109 := ⟨fun j op h => m_rowsAll ct109 j op h, Or.inr ⟨by decide +kernel, rfl, rfl⟩⟩
theorem sy110 : m_Q1 110 := ⟨fun j op h => m_rowsAll ct110 j op h, Or.inr ⟨by decide +kernel, rfl, rfl⟩⟩
theorem sy111 : m_Q1 111 := ⟨fun j op h => m_rowsAll ct111 j op h, Or.inr ⟨by decide +kernel, rfl, rfl⟩⟩
theorem sy112 : m_Q1 112 := ⟨fun j op h => m_rowsAll ct112 j op h, Or.inr ⟨by decide +kernel, rfl, rfl⟩⟩
theorem sy113 : m_Q1 113 := ⟨fun j op h => m_rowsAll ct113 j op h, Or.inr ⟨by decide +kernel, rfl, rfl⟩⟩
theorem sy114 : m_Q1 114 := ⟨fun j op h => m_rowsAll ct114 j op h, Or.inr ⟨by decide +kernel, rfl, rfl⟩⟩
theorem sy115 : m_Q1 115 := ⟨fun j op h => m_rowsAll ct115 j op h, Or.inr ⟨by decide +kernel, rfl, rfl⟩⟩
theorem sy116 : m_Q1 116 := ⟨fun j op h => m_rowsAll ct116 j op h, Or.inr ⟨by decide +kernel, rfl, rfl⟩⟩
theorem sy117 : m_Q1 117 := ⟨fun j op h => m_rowsAll ct117 j op h, Or.inr ⟨by decide +kernel, rfl, rfl⟩⟩
theorem sy118 : m_Q1 118 := ⟨fun j op h => m_rowsAll ct118 j op h, Or.inr ⟨by decide +kernel, rfl, rfl⟩⟩
theorem sy119 : m_Q1 119 := ⟨fun j op h => m_rowsAll ct119 j op h, Or.inr ⟨by decide +kernel, rfl, rfl⟩⟩
theorem sy120 : m_Q1 120 := ⟨fun j op h => m_rowsAll ct120 j op h, Or.inr ⟨by decide +kernel, rfl, rfl⟩⟩
theorem sy121 : m_Q1 121 := ⟨fun j op h => m_rowsAll ct121 j op h, Or.inr ⟨by decide +kernel, rfl, rfl⟩⟩
theorem sy122 : m_Q1 122 := ⟨fun j op h => m_rowsAll ct122 j op h, Or.inr ⟨by decide +kernel, rfl, rfl⟩⟩
theorem sy123 : m_Q1 123 := ⟨fun j op h => m_rowsAll ct123 j op h, Or.inr ⟨by decide +kernel, rfl, rfl⟩⟩
theorem sy124 : m_Q1 124 := ⟨fun j op h => m_rowsAll ct124 j op h, Or.inr ⟨by decide +kernel, rfl, rfl⟩⟩
theorem sy125 : m_Q1 125 := ⟨fun j op h => m_rowsAll ct125 j op h, Or.inr ⟨by decide +kernel, rfl, rfl⟩⟩
theorem sy126 : m_Q1 126 := ⟨fun j op h => m_rowsAll ct126 j op h, Or.inr ⟨by decide +kernel, rfl, rfl⟩⟩
theorem sy127 : m_Q1 127 := ⟨fun j op h => m_rowsAll ct127 j op h, Or.inr ⟨by decide +kernel, rfl, rfl⟩⟩
theorem sy128 : m_Q1 128 := ⟨fun j op h => m_rowsAll ct128 j op h, Or.inr ⟨by decide +kernel, rfl, rfl⟩⟩
theorem sy129 : m_Q1 129 := ⟨fun j op h => m_rowsAll ct129 j op h, Or.inr ⟨by decide +kernel, rfl, rfl⟩⟩
theorem sy130 : m_Q1 130 := ⟨fun j op h => m_rowsAll ct130 j op h, Or.inr ⟨by decide +kernel, rfl, rfl⟩⟩
theorem sy131 : m_Q1 131 := ⟨fun j op h => m_rowsAll ct131 j op h, Or.inr ⟨by decide +kernel, rfl, rfl⟩⟩
theorem sy132 : m_Q1 132 := ⟨fun j op h => m_rowsAll ct132 j op h, Or.inr ⟨by decide +kernel, rfl, rfl⟩⟩
theorem sy133 : m_Q1 133 := ⟨fun j op h => m_rowsAll ct133 j op h, Or.inr ⟨by decide +kernel, rfl, rfl⟩⟩
theorem sy134 : m_Q1 134 := ⟨fun j op h => m_rowsAll ct134 j op h, Or.inr ⟨by decide +kernel, rfl, rfl⟩⟩
theorem sy135 : m_Q1 135 := ⟨fun j op h => m_rowsAll ct135 j op h, Or.inr ⟨by decide +kernel, rfl, rfl⟩⟩
theorem sy136 : m_Q1 136 := ⟨fun j op h => m_rowsAll ct136 j op h, Or.inr ⟨by decide +kernel, rfl, rfl⟩⟩
theorem sy137 : m_Q1 137 := ⟨fun j op h => m_rowsAll ct137 j op h, Or.inr ⟨by decide +kernel, rfl, rfl⟩⟩
theorem sy138 : m_Q1 138 := ⟨fun j op h => m_rowsAll ct138 j op h, Or.inr ⟨by decide +kernel, rfl, rfl⟩⟩
theorem sy139 : m_Q1 139 := ⟨fun j op h => m_rowsAll ct139 j op h, Or.inr ⟨by decide +kernel, rfl, rfl⟩⟩
theorem sy140 : m_Q1 140 := ⟨fun j op h => m_rowsAll ct140 j op h, Or.inr ⟨by decide +kernel, rfl, rfl⟩⟩
theorem sy141 : m_Q1 141 := ⟨fun j op h => m_rowsAll ct141 j op h, Or.inr ⟨by decide +kernel, rfl, rfl⟩⟩
theorem sy142 : m_Q1 142 := ⟨fun j op h => m_rowsAll ct142 j op h, Or.inr ⟨by decide +kernel, rfl, rfl⟩⟩
theorem sy143 : m_Q1 143 := ⟨fun j op h => m_rowsAll ct143 j op h, Or.inr ⟨by decide +kernel, rfl, rfl⟩⟩
theorem sy144 : m_Q1 144 := ⟨fun j op h => m_rowsAll ct144 j op h, Or.inr ⟨by decide +kernel, rfl, rfl⟩⟩
theorem sy145 : m_Q1 145 := ⟨fun j op h => m_rowsAll ct145 j op h, Or.inr ⟨by decide +kernel, rfl, rfl⟩⟩
theorem sy146 : m_Q1 146 := ⟨fun j op h => m_rowsAll ct146 j op h, Or.inr ⟨by decide +kernel, rfl, rfl⟩⟩
theorem sy147 : m_Q1 147 := ⟨fun j op h => m_rowsAll ct147 j op h, Or.inr ⟨by decide +kernel, rfl, rfl⟩⟩
theorem sy148 : m_Q1 148 := ⟨fun j op h => m_rowsAll ct148 j op h, Or.inr ⟨by decide +kernel, rfl, rfl⟩⟩
theorem sy149 : m_Q1 149 := ⟨fun j op h => m_rowsAll ct149 j op h, Or.inr ⟨by decide +kernel, rfl, rfl⟩⟩
theorem sy150 : m_Q1 150 := ⟨fun j op h => m_rowsAll ct150 j op h, Or.inr ⟨by decide +kernel, rfl, rfl⟩⟩
theorem sy151 : m_Q1 151 := ⟨fun j op h => m_rowsAll ct151 j op h, Or.inr ⟨by decide +kernel, rfl, rfl⟩⟩
theorem sy152 : m_Q1 152 := ⟨fun j op h => m_rowsAll ct152 j op h, Or.inr ⟨by decide +kernel, rfl, rfl⟩⟩
theorem sy153 : m_Q1 153 := ⟨fun j op h => m_rowsAll ct153 j op h, Or.inr ⟨by decide +kernel, rfl, rfl⟩⟩
theorem sy154 : m_Q1 154 := ⟨fun j op h => m_rowsAll ct154 j op h, Or.inr ⟨by decide +kernel, rfl, rfl⟩⟩
theorem sy155 : m_Q1 155 := ⟨fun j op h => m_rowsAll ct155 j op h, Or.inr ⟨by decide +kernel, rfl, rfl⟩⟩
theorem sy156 : m_Q1 156 := ⟨fun j op h => m_rowsAll ct156 j op h, Or.inr ⟨by decide +kernel, rfl, rfl⟩⟩
theorem sy157 : m_Q1 157 := ⟨fun j op h => m_rowsAll ct157 j op h, Or.inr ⟨by decide +kernel, rfl, rfl⟩⟩
theorem sy158 : m_Q1 158 := ⟨fun j op h => m_rowsAll ct158 j op h, Or.inr ⟨by decide +kernel, rfl, rfl⟩⟩
theorem sy159 : m_Q1 159 := ⟨fun j op h => m_rowsAll ct159 j op h, Or.inr ⟨by decide +kernel, rfl, rfl⟩⟩
theorem sy160 : m_Q1 160 := ⟨fun j op h => m_rowsAll ct160 j op h, Or.inr ⟨by decide +kernel, rfl, rfl⟩⟩
theorem sy161 : m_Q1 161 := ⟨fun j op h => m_rowsAll ct161 j op h, Or.inr ⟨by decide +kernel, rfl, rfl⟩⟩
theorem sy162 : m_Q1 162 := ⟨fun j op h => m_rowsAll ct162 j op h, Or.inr ⟨by decide +kernel, rfl, rfl⟩⟩
theorem sy163 : m_Q1 163 := ⟨fun j op h => m_rowsAll ct163 j op h, Or.inr ⟨by decide +kernel, rfl, rfl⟩⟩
theorem sy164 : m_Q1 164 := ⟨fun j op h => m_rowsAll ct164 j op h, Or.inr ⟨by decide +kernel, rfl, rfl⟩⟩
theorem sy165 : m_Q1 165 := ⟨fun j op h => m_rowsAll ct165 j op h, Or.inr ⟨by decide +kernel, rfl, rfl⟩⟩
theorem sy166 : m_Q1 166 := ⟨fun j op h => m_rowsAll ct166 j op h, Or.inr ⟨by decide +kernel, rfl, rfl⟩⟩
theorem sy167 : m_Q1 167 := ⟨fun j op h => m_rowsAll ct167 j op h, Or.inr ⟨by decide +kernel, rfl, rfl⟩⟩
theorem sy168 : m_Q1 168 := ⟨fun j op h => m_rowsAll ct168 j op h, Or.inr ⟨by decide +kernel, rfl, rfl⟩⟩
theorem sy169 : m_Q1 169 := ⟨fun j op h => m_rowsAll ct169 j op h, Or.inr ⟨by decide +kernel, rfl, rfl⟩⟩
theorem sy170 : m_Q1 170 := ⟨fun j op h => m_rowsAll ct170 j op h, Or.inr ⟨by decide +kernel, rfl, rfl⟩⟩
theorem sy171 : m_Q1 171 := ⟨fun j op h => m_rowsAll ct171 j op h, Or.inr ⟨by decide +kernel, rfl, rfl⟩⟩
theorem sy172 : m_Q1 172 := ⟨fun j op h => m_rowsAll ct172 j op h, Or.inr ⟨by decide +kernel, rfl, rfl⟩⟩
theorem sy173 : m_Q1 173 := ⟨fun j op h => m_rowsAll ct173 j op h, Or.inr ⟨by decide +kernel, rfl, rfl⟩⟩
theorem sy174 : m_Q1 174 := ⟨fun j op h => m_rowsAll ct174 j op h, Or.inr ⟨by decide +kernel, rfl, rfl⟩⟩
theorem sy175 : m_Q1 175 := ⟨fun j op h => m_rowsAll ct175 j op h, Or.inr ⟨by decide +kernel, rfl, rfl⟩⟩
theorem sy176 : m_Q1 176 := ⟨fun j op h => m_rowsAll ct176 j op h, Or.inr ⟨by decide +kernel, rfl, rfl⟩⟩
theorem sy177 : m_Q1 177 := ⟨fun j op h => m_rowsAll ct177 j op h, Or.inr ⟨by decide +kernel, rfl, rfl⟩⟩
theorem sy178 : m_Q1 178 := ⟨fun j op h => m_rowsAll ct178 j op h, Or.inr ⟨by decide +kernel, rfl, rfl⟩⟩
theorem sy179 : m_Q1 179 := ⟨fun j op h => m_rowsAll ct179 j op h, Or.inr ⟨by decide +kernel, rfl, rfl⟩⟩
theorem sy180 : m_Q1 180 := ⟨fun j op h => m_rowsAll ct180 j op h, Or.inr ⟨by decide +kernel, rfl, rfl⟩⟩
theorem sy181 : m_Q1 181 := ⟨fun j op h => m_rowsAll ct181 j op h, Or.inr ⟨by decide +kernel, rfl, rfl⟩⟩
theorem sy182 : m_Q1 182 := ⟨fun j op h => m_rowsAll ct182 j op h, Or.inr ⟨by decide +kernel, rfl, rfl⟩⟩
theorem sy183 : m_Q1 183 := ⟨fun j op h => m_rowsAll ct183 j op h, Or.inr ⟨by decide +kernel, rfl, rfl⟩⟩
theorem sy184 : m_Q1 184 := ⟨fun j op h => m_rowsAll ct184 j op h, Or.inr ⟨by decide +kernel, rfl, rfl⟩⟩
theorem sy185 : m_Q1 185 := ⟨fun j op h => m_rowsAll ct185 j op h, Or.inr ⟨by decide +kernel, rfl, rfl⟩⟩
theorem sy186 : m_Q1 186 := ⟨fun j op h => m_rowsAll ct186 j op h, Or.inr ⟨by decide +kernel, rfl, rfl⟩⟩
theorem sy187 : m_Q1 187 := ⟨fun j op h => m_rowsAll ct187 j op h, Or.inr ⟨by decide +kernel, rfl, rfl⟩⟩
theorem sy188 : m_Q1 188 := ⟨fun j op h => m_rowsAll ct188 j op h, Or.inr ⟨by decide +kernel, rfl, rfl⟩⟩
theorem sy189 : m_Q1 189 := ⟨fun j op h => m_rowsAll ct189 j op h, Or.inr ⟨by decide +kernel, rfl, rfl⟩⟩
theorem sy190 : m_Q1 190 := ⟨fun j op h => m_rowsAll ct190 j op h, Or.inr ⟨by decide +kernel, rfl, rfl⟩⟩
theorem sy191 : m_Q1 191 := ⟨fun j op h => m_rowsAll ct191 j op h, Or.inr ⟨by decide +kernel, rfl, rfl⟩⟩
theorem sy192 : m_Q1 192 := ⟨fun j op h => m_rowsAll ct192 j op h, Or.inr ⟨by decide +kernel, rfl, rfl⟩⟩
theorem sy193 : m_Q1 193 := ⟨fun j op h => m_rowsAll ct193 j op h, Or.inr ⟨by decide +kernel, rfl, rfl⟩⟩
theorem sy194 : m_Q1 194 := ⟨fun j op h => m_rowsAll ct194 j op h, Or.inr ⟨by decide +kernel, rfl, rfl⟩⟩
theorem sy195 : m_Q1 195 := ⟨fun j op h => m_rowsAll ct195 j op h, Or.inr ⟨by decide +kernel, rfl, rfl⟩⟩
theorem sy196 : m_Q1 196 := ⟨fun j op h => m_rowsAll ct196 j op h, Or.inr ⟨by decide +kernel, rfl, rfl⟩⟩
theorem sy197 : m_Q1 197 := ⟨fun j op h => m_rowsAll ct197 j op h, Or.inr ⟨by decide +kernel, rfl, rfl⟩⟩
theorem sy198 : m_Q1 198 := ⟨fun j op h => m_rowsAll ct198 j op h, Or.inr ⟨by decide +kernel, rfl, rfl⟩⟩
theorem sy199 : m_Q1 199 := ⟨fun j op h => m_rowsAll ct199 j op h, Or.inr ⟨by decide +kernel, rfl, rfl⟩⟩
theorem sy200 : m_Q1 200 := ⟨fun j op h => m_rowsAll ct200 j op h, Or.inr ⟨by decide +kernel, rfl, rfl⟩⟩
theorem sy201 : m_Q1 201 := ⟨fun j op h => m_rowsAll ct201 j op h, Or.inr ⟨by decide +kernel, rfl, rfl⟩⟩
theorem sy202 : m_Q1 202 := ⟨fun j op h => m_rowsAll ct202 j op h, Or.inr ⟨by decide +kernel, rfl, rfl⟩⟩
theorem sy203 : m_Q1 203 := ⟨fun j op h => m_rowsAll ct203 j op h, Or.inr ⟨by decide +kernel, rfl, rfl⟩⟩
theorem sy204 : m_Q1 204 := ⟨fun j op h => m_rowsAll ct204 j op h, Or.inr ⟨by decide +kernel, rfl, rfl⟩⟩
theorem sy205 : m_Q1 205 := ⟨fun j op h => m_rowsAll ct205 j op h, Or.inr ⟨by decide +kernel, rfl, rfl⟩⟩
theorem sy206 : m_Q1 206 := ⟨fun j op h => m_rowsAll ct206 j op h, Or.inr ⟨by decide +kernel, rfl, rfl⟩⟩
theorem sy207 : m_Q1 207 := ⟨fun j op h => m_rowsAll ct207 j op h, Or.inr ⟨by decide +kernel, rfl, rfl⟩⟩
theorem sy208 : m_Q1 208 := ⟨fun j op h => m_rowsAll ct208 j op h, Or.inr ⟨by decide +kernel, rfl, rfl⟩⟩
theorem sy209 : m_Q1 209 := ⟨fun j op h => m_rowsAll ct209 j op h, Or.inr ⟨by decide +kernel, rfl, rfl⟩⟩
theorem sy210 : m_Q1 210 := ⟨fun j op h => m_rowsAll ct210 j op h, Or.inr ⟨by decide +kernel, rfl, rfl⟩⟩
theorem sy211 : m_Q1 211 := ⟨fun j op h => m_rowsAll ct211 j op h, Or.inr ⟨by decide +kernel, rfl, rfl⟩⟩
theorem sy212 : m_Q1 212 := ⟨fun j op h => m_rowsAll ct212 j op h, Or.inr ⟨by decide +kernel, rfl, rfl⟩⟩
theorem sy213 : m_Q1 213 := ⟨fun j op h => m_rowsAll ct213 j op h, Or.inr ⟨by decide +kernel, rfl, rfl⟩⟩
theorem sy214 : m_Q1 214 := ⟨fun j op h => m_rowsAll ct214 j op h, Or.inr ⟨by decide +kernel, rfl, rfl⟩⟩
theorem sy215 : m_Q1 215 := ⟨fun j op h => m_rowsAll ct215 j op h, Or.inr ⟨by decide +kernel, rfl, rfl⟩⟩
theorem sy216 : m_Q1 216 := ⟨fun j op h => m_rowsAll ct216 j op h, Or.inr ⟨by decide +kernel, rfl, rfl⟩⟩
theorem sy217 : m_Q1 217 := ⟨fun j op h => m_rowsAll ct217 j op h, Or.inr ⟨by decide +kernel, rfl, rfl⟩⟩
theorem sy218 : m_Q1 218 := ⟨fun j op h => m_rowsAll ct218 j op h, Or.inr ⟨by decide +kernel, rfl, rfl⟩⟩
theorem sy219 : m_Q1 219 := ⟨fun j op h => m_rowsAll ct219 j op h, Or.inr ⟨by decide +kernel, rfl, rfl⟩⟩
theorem sy220 : m_Q1 220 := ⟨fun j op h => m_rowsAll ct220 j op h, Or.inr ⟨by decide +kernel, rfl, rfl⟩⟩
theorem sy221 : m_Q1 221 := ⟨fun j op h => m_rowsAll ct221 j op h, Or.inr ⟨by decide +kernel, rfl, rfl⟩⟩
theorem sy222 : m_Q1 222 := ⟨fun j op h => m_rowsAll ct222 j op h, Or.inr ⟨by decide +kernel, rfl, rfl⟩⟩
theorem sy223 : m_Q1 223 := ⟨fun j op h => m_rowsAll ct223 j op h, Or.inr ⟨by decide +kernel, rfl, rfl⟩⟩
theorem sy224 : m_Q1 224 := ⟨fun j op h => m_rowsAll ct224 j op h, Or.inr ⟨by decide +kernel, rfl, rfl⟩⟩
theorem sy225 : m_Q1 225 := ⟨fun j op h => m_rowsAll ct225 j op h, Or.inr ⟨by decide +kernel, rfl, rfl⟩⟩
theorem sy226 : m_Q1 226 := ⟨fun j op h => m_rowsAll ct226 j op h, Or.inr ⟨by decide +kernel, rfl, rfl⟩⟩
theorem sy227 : m_Q1 227 := ⟨fun j op h => m_rowsAll ct227 j op h, Or.inr ⟨by decide +kernel, rfl, rfl⟩⟩
theorem sy228 : m_Q1 228 := ⟨fun j op h => m_rowsAll ct228 j op h, Or.inr ⟨by decide +kernel, rfl, rfl⟩⟩
theorem sy229 : m_Q1 229 := ⟨fun j op h => m_rowsAll ct229 j op h, Or.inr ⟨by decide +kernel, rfl, rfl⟩⟩
theorem sy230 : m_Q1 230 := ⟨fun j op h => m_rowsAll ct230 j op h, Or.inr ⟨by decide +kernel, rfl, rfl⟩⟩
theorem sy231 : m_Q1 231 := ⟨fun j op h => m_rowsAll ct231 j op h, Or.inr ⟨by decide +kernel, rfl, rfl⟩⟩
theorem sy232 : m_Q1 232 := ⟨fun j op h => m_rowsAll ct232 j op h, Or.inr ⟨by decide +kernel, rfl, rfl⟩⟩
theorem sy233 : m_Q1 233 := ⟨fun j op h => m_rowsAll ct233 j op h, Or.inr ⟨by decide +kernel, rfl, rfl⟩⟩
theorem sy234 : m_Q1 234 := ⟨fun j op h => m_rowsAll ct234 j op h, Or.inr ⟨by decide +kernel, rfl, rfl⟩⟩
theorem sy235 : m_Q1 235 := ⟨fun j op h => m_rowsAll ct235 j op h, Or.inr ⟨by decide +kernel, rfl, rfl⟩⟩
theorem sy236 : m_Q1 236 := ⟨fun j op h => m_rowsAll ct236 j op h, Or.inr ⟨by decide +kernel, rfl, rfl⟩⟩
theorem sy237 : m_Q1 237 := ⟨fun j op h => m_rowsAll ct237 j op h, Or.inr ⟨by decide +kernel, rfl, rfl⟩⟩
theorem sy238 : m_Q1 238 := ⟨fun j op h => m_rowsAll ct238 j op h, Or.inr ⟨by decide +kernel, rfl, rfl⟩⟩
theorem sy239 : m_Q1 239 := ⟨fun j op h => m_rowsAll ct239 j op h, Or.inr ⟨by decide +kernel, rfl, rfl⟩⟩
theorem sy240 : m_Q1 240 := ⟨fun j op h => m_rowsAll ct240 j op h, Or.inr ⟨by decide +kernel, rfl, rfl⟩⟩
theorem sy241 : m_Q1 241 := ⟨fun j op h => m_rowsAll ct241 j op h, Or.inr ⟨by decide +kernel, rfl, rfl⟩⟩
theorem sy242 : m_Q1 242 := ⟨fun j op h => m_rowsAll ct242 j op h, Or.inr ⟨by decide +kernel, rfl, rfl⟩⟩
theorem sy243 : m_Q1 243 := ⟨fun j op h => m_rowsAll ct243 j op h, Or.inr ⟨by decide +kernel, rfl, rfl⟩⟩
theorem sy244 : m_Q1 244 := ⟨fun j op h => m_rowsAll ct244 j op h, Or.inr ⟨by decide +kernel, rfl, rfl⟩⟩
theorem sy245 : m_Q1 245 := ⟨fun j op h => m_rowsAll ct245 j op h, Or.inr ⟨by decide +kernel, rfl, rfl⟩⟩
theorem sy246 : m_Q1 246 := ⟨fun j op h => m_rowsAll ct246 j op h, Or.inr ⟨by decide +kernel, rfl, rfl⟩⟩
theorem sy247 : m_Q1 247 := ⟨fun j op h => m_rowsAll ct247 j op h, Or.inr ⟨by decide +kernel, rfl, rfl⟩⟩
theorem sy248 : m_Q1 248 := ⟨fun j op h => m_rowsAll ct248 j op h, Or.inr ⟨by decide +kernel, rfl, rfl⟩⟩
theorem sy249 : m_Q1 249 := ⟨fun j op h => m_rowsAll ct249 j op h, Or.inr ⟨by decide +kernel, rfl, rfl⟩⟩
theorem sy250 : m_Q1 250 := ⟨fun j op h => m_rowsAll ct250 j op h, Or.inr ⟨by decide +kernel, rfl, rfl⟩⟩
theorem sy251 : m_Q1 251 := ⟨fun j op h => m_rowsAll ct251 j op h, Or.inr ⟨by decide +kernel, rfl, rfl⟩⟩
theorem sy252 : m_Q1 252 := ⟨fun j op h => m_rowsAll ct252 j op h, Or.inr ⟨by decide +kernel, rfl, rfl⟩⟩
theorem sy253 : m_Q1 253 := ⟨fun j op h => m_rowsAll ct253 j op h, Or.inr ⟨by decide +kernel, rfl, rfl⟩⟩
theorem sy254 : m_Q1 254 := ⟨fun j op h => m_rowsAll ct254 j op h, Or.inr ⟨by decide +kernel, rfl, rfl⟩⟩
theorem sy255 : m_Q1 255 := ⟨fun j op h => m_rowsAll ct255 j op h, Or.inr ⟨by decide +kernel, rfl, rfl⟩⟩
theorem sy256 : m_Q1 256 := ⟨fun j op h => m_rowsAll ct256 j op h, Or.inr ⟨by decide +kernel, rfl, rfl⟩⟩
theorem sy257 : m_Q1 257 := ⟨fun j op h => m_rowsAll ct257 j op h, Or.inr ⟨by decide +kernel, rfl, rfl⟩⟩
theorem sy258 : m_Q1 258 := ⟨fun j op h => m_rowsAll ct258 j op h, Or.inr ⟨by decide +kernel, rfl, rfl⟩⟩
theorem sy259 : m_Q1 259 := ⟨fun j op h => m_rowsAll ct259 j op h, Or.inr ⟨by decide +kernel, rfl, rfl⟩⟩
theorem sy260 : m_Q1 260 := ⟨fun j op h => m_rowsAll ct260 j op h, Or.inr ⟨by decide +kernel, rfl, rfl⟩⟩
theorem sy261 : m_Q1 261 := ⟨fun j op h => m_rowsAll ct261 j op h, Or.inr ⟨by decide +kernel, rfl, rfl⟩⟩
theorem sy262 : m_Q1 262 := ⟨fun j op h => m_rowsAll ct262 j op h, Or.inr ⟨by decide +kernel, rfl, rfl⟩⟩
theorem sy263 : m_Q1 263 := ⟨fun j op h => m_rowsAll ct263 j op h, Or.inr ⟨by decide +kernel, rfl, rfl⟩⟩
theorem sy264 : m_Q1 264 := ⟨fun j op h => m_rowsAll ct264 j op h, Or.inr ⟨by decide +kernel, rfl, rfl⟩⟩
theorem sy265 : m_Q1 265 := ⟨fun j op h => m_rowsAll ct265 j op h, Or.inr ⟨by decide +kernel, rfl, rfl⟩⟩
theorem sz0 : m_AllN m_Q1 0 32 := ⟨sy0, sy1, sy2, sy3, sy4, sy5, sy6, sy7, sy8, sy9, sy10, sy11, sy12, sy13, sy14, sy15, sy16, sy17, sy18, sy19, sy20, sy21, sy22, sy23, sy24, sy25, sy26, sy27, sy28, sy29, sy30, sy31, trivial⟩
theorem sz32 : m_AllN m_Q1 32 32 := ⟨sy32, sy33, sy34, sy35, sy36, sy37, sy38, sy39, sy40, sy41, sy42, sy43, sy44, sy45, sy46, sy47, sy48, sy49, sy50, sy51, sy52, sy53, sy54, sy55, sy56, sy57, sy58, sy59, sy60, sy61, sy62, sy63, trivial⟩
theorem sz64 : m_AllN m_Q1 64 32 := ⟨sy64, sy65, sy66, sy67, sy68, sy69, sy70, sy71, sy72, sy73, sy74, sy75, sy76, sy77, sy78, sy79, sy80, sy81, sy82, sy83, sy84, sy85, sy86, sy87, sy88, sy89, sy90, sy91, sy92, sy93, sy94, sy95, trivial⟩
theorem sz96 : m_AllN m_Q1 96 32 := ⟨sy96, sy97, sy98, sy99, sy100, sy101, sy102, sy103, sy104, sy105, sy106, sy107, sy108, sy109, sy110, sy111, sy112, sy113, sy114, sy115, sy116, sy117, sy118, sy119, sy120, sy121, sy122, sy123, sy124, sy125, sy126, sy127, trivial⟩
theorem sz128 : m_AllN m_Q1 128 32 := ⟨sy128, sy129, sy130, sy131, sy132, sy133, sy134, sy135, sy136, sy137, sy138, sy139, sy140, sy141, sy142, sy143, sy144, sy145, sy146, sy147, sy148, sy149, sy150, sy151, sy152, sy153, sy154, sy155, sy156, sy157, sy158, sy159, trivial⟩
theorem sz160 : m_AllN m_Q1 160 32 := ⟨sy160, sy161, sy162, sy163, sy164, sy165, sy166, sy167, sy168, sy169, sy170, sy171, sy172, sy173, sy174, sy175, sy176, sy177, sy178, sy179, sy180, sy181, sy182, sy183, sy184, sy185, sy186, sy187, sy188, sy189, sy190, sy191, trivial⟩
theorem sz192 : m_AllN m_Q1 192 32 := ⟨sy192, sy193, sy194, sy195, sy196, sy197, sy198, sy199, sy200, sy201, sy202, sy203, sy204, sy205, sy206, sy207, sy208, sy209, sy210, sy211, sy212, sy213, sy214, sy215, sy216, sy217, sy218, sy219, sy220, sy221, sy222, sy223, trivial⟩
theorem sz224 : m_AllN m_Q1 224 32 := ⟨sy224, sy225, sy226, sy227, sy228, sy229, sy230, sy231, sy232, sy233, sy234, sy235, sy236, sy237, sy238, sy239, sy240, sy241, sy242, sy243, sy244, sy245, sy246, sy247, sy248, sy249, sy250, sy251, sy252, sy253, sy254, sy255, trivial⟩
theorem sz256 : m_AllN m_Q1 256 10 := ⟨sy256, sy257, sy258, sy259, sy260, sy261, sy262, sy263, sy264, sy265, trivial⟩
theorem m_sys : m_Sys mPr mI mPs := by
  intro mt
  show m_Q1 mt
  by_cases h0 : mt < 32
  · have := sz0.get (mt - 0) (by omega)
    rwa [show 0 + (mt - 0) = mt by omega] at this
  by_cases h32 : mt < 64
  · have := sz32.get (mt - 32) (by omega)
    rwa [show 32 + (mt - 32) = mt by omega] at this
  by_cases h64 : mt < 96
  · have := sz64.get (mt - 64) (by omega)
    rwa [show 64 + (mt - 64) = mt by omega] at this
  by_cases h96 : mt < 128
  · have := sz96.get (mt - 96) (by omega)
    rwa [show 96 + (mt - 96) = mt by omega] at this
  by_cases h128 : mt < 160
  · have := sz128.get (mt - 128) (by omega)
    rwa [show 128 + (mt - 128) = mt by omega] at this
  by_cases h160 : mt < 192
  · have := sz160.get (mt - 160) (by omega)
    rwa [show 160 + (mt - 160) = mt by omega] at this
  by_cases h192 : mt < 224
  · have := sz192.get (mt - 192) (by omega)
    rwa [show 192 + (mt - 192) = mt by omega] at this
  by_cases h224 : mt < 256
  · have := sz224.get (mt - 224) (by omega)
    rwa [show 224 + (mt - 224) = mt by omega] at this
  by_cases h256 : mt < 266
  · have := sz256.get (mt - 256) (by omega)
    rwa [show 256 + (mt - 256) = mt by omega] at this
  have hn : (mPr mt).2 = m_rows [] := by
    unfold mPr
    show m_rows ((m_opsL[mt]?).getD []) = _
    rw [List.getElem?_eq_none (by rw [show m_opsL.length = 266 by decide +kernel]; omega)]
    rfl
  refine ⟨fun j op h => ?_, Or.inl ?_⟩
  · rw [hn] at h; simp [m_rows] at h
  · rw [hn]; simp [m_rows]
