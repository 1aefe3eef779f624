/-- nothing is thrown -/
def jN : String → jM → Prop := fun _ _ => False
