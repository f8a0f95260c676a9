theorem zi_ms_ok : zi_mOk zi_ms := fun a mt h => zi_ms_all mt (List.mem_of_getElem? h)
