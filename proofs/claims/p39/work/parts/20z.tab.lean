/-! TABLES, by program -/
section SN
end SN
