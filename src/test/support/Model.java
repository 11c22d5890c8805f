import java.util.ArrayList;
import java.util.HashMap;
import java.util.List;
import java.util.Map;

/** A second machine, written from the document's Terms with maps, lists and longs, to compare the class with. */
final class Model {
    private final Map<Long, Integer> memory = new HashMap<>();
    private Map<Integer, Integer> registers;
    private List<Integer> output;
    private Map<String, Integer> named;
    private boolean innerMode;
    private boolean pagingOn;
    private boolean keptOn;
    private int answer;
    private int count;

    Model() {
        reset(0);
    }

    void reset(int place) {
        registers = new HashMap<>();
        output = new ArrayList<>();
        named = new HashMap<>();
        named.put("VECTOR", -1);
        named.put("PLACE", place);
        innerMode = true;
        pagingOn = false;
        keptOn = false;
        answer = 0;
        count = 0;
    }

    boolean poke(int p, int word) {
        if (p < 0 || p > 127) {
            return false;
        }
        memory.put((long) p, word);
        return true;
    }

    boolean code(int p, int op, int n) {
        return op >= 0 && op <= 16383 && poke(p, (int) (op + 16384L * Math.floorMod(n, 262144)));
    }

    int run(int n) {
        for (int left = Math.max(0, Math.min(400, n)); left > 0 && answer == 0; left--) {
            count++;
            one();
        }
        return answer;
    }

    int executed() {
        return count;
    }

    int peek(int p) {
        return memory.getOrDefault((long) p, 0);
    }

    int register(int r) {
        return registers.getOrDefault(r, 0);
    }

    boolean setRegister(int r, int value) {
        if (r < 0 || r > 7) {
            return false;
        }
        registers.put(r, value);
        return true;
    }

    int place() {
        return number("PLACE");
    }

    int look(int k) {
        if (k < 0 || k > 7) {
            return -1;
        }
        if (k < 5) {
            return number(List.of("TABLE", "VECTOR", "RETURN", "CAUSE", "SPOT").get(k));
        }
        return List.of(innerMode, pagingOn, keptOn).get(k - 5) ? 1 : 0;
    }

    int translated(int p) {
        return (int) translate(p, false);
    }

    int printed() {
        return output.size();
    }

    int output(int k) {
        return k >= 0 && k <= 19 && k < output.size() ? output.get(k) : 0;
    }

    boolean level(int k) {
        return k == 0 || k == 1 || k == 2;
    }

    private int number(String name) {
        return named.getOrDefault(name, 0);
    }

    private long translate(long p, boolean forWriting) {
        if (p < 0 || p > 127 || !pagingOn) {
            return p < 0 || p > 127 ? -1 : p;
        }
        long e = number("TABLE") + p / 16;
        if (e < 0 || e > 127) {
            return -1;
        }
        String bits = String.format("%32s", Integer.toBinaryString(peek((int) e))).replace(' ', '0');
        if (bits.charAt(31) == '0' || forWriting && bits.charAt(30) == '0') {
            return -1;
        }
        return 16 * Integer.parseInt(bits.substring(25, 28), 2) + p % 16;
    }

    private void one() {
        int place = place();
        long at = translate(place, false);
        if (at < 0) {
            named.put("SPOT", place);
            trap(3);
            return;
        }
        int w = memory.getOrDefault(at, 0);
        int o = Math.floorMod(w, 32);
        int a = Math.floorMod(Math.floorDiv(w, 32), 8);
        int b = Math.floorMod(Math.floorDiv(w, 256), 8);
        int c = Math.floorMod(Math.floorDiv(w, 2048), 8);
        int n = Math.floorDiv(w, 16384);
        if (o >= 21 && o <= 25 && !innerMode) {
            trap(2);
        } else if (o >= 27 || o == 25 && (n < 0 || n > 2)) {
            trap(1);
        } else if (o == 20) {
            trap(4);
        } else if (o == 0) {
            answer = 1;
        } else if (o == 12 || o == 13) {
            word(o, a, register(b) + n);
        } else {
            named.put("PLACE", next(o, a, b, n));
            effect(o, a, new int[] {register(b), register(c), n, place});
        }
    }

    private void word(int o, int a, int wanted) {
        long at = translate(wanted, o == 13);
        if (at < 0) {
            named.put("SPOT", wanted);
            trap(3);
            return;
        }
        if (o == 12) {
            registers.put(a, peek((int) at));
        } else {
            memory.put(at, register(a));
        }
        named.put("PLACE", place() + 1);
    }

    private int next(int o, int a, int b, int n) {
        boolean jumps = o == 14 && register(a) == 0 || o == 15 && register(a) != 0
            || o == 16 && register(a) < register(b) || o == 17 || o == 18;
        if (o == 19) {
            return register(a);
        }
        if (o == 24) {
            return number("RETURN");
        }
        return place() + (jumps ? n : 1);
    }

    /** parts: rb, rc, n and the place of the instruction. */
    private void effect(int o, int a, int[] parts) {
        int rb = parts[0];
        int rc = parts[1];
        int shift = Math.floorMod(rc, 32);
        switch (o) {
            case 1 -> registers.put(a, parts[2]);
            case 2 -> registers.put(a, rb);
            case 3 -> registers.put(a, (int) ((long) rb + rc));
            case 4 -> registers.put(a, (int) ((long) rb - rc));
            case 5 -> registers.put(a, (int) ((long) rb * rc));
            case 6 -> registers.put(a, rb & rc);
            case 7 -> registers.put(a, rb | rc);
            case 8 -> registers.put(a, rb ^ rc);
            case 9 -> registers.put(a, (int) (rb * (1L << shift)));
            case 10 -> registers.put(a, (int) (Integer.toUnsignedLong(rb) / (1L << shift)));
            case 11 -> registers.put(a, (int) ((long) rb + parts[2]));
            case 18 -> registers.put(a, parts[3] + 1);
            case 21 -> named.put("TABLE", register(a));
            case 22 -> pagingOn = register(a) != 0;
            case 23 -> named.put("VECTOR", register(a));
            case 24 -> {
                innerMode = false;
                pagingOn = keptOn;
            }
            case 25 -> registers.put(a, number(List.of("RETURN", "CAUSE", "SPOT").get(parts[2])));
            case 26 -> output.add(register(a));
            default -> { }
        }
    }

    private void trap(int cause) {
        if (innerMode || number("VECTOR") < 0) {
            answer = 2;
            return;
        }
        named.put("RETURN", place());
        named.put("CAUSE", cause);
        keptOn = pagingOn;
        pagingOn = false;
        innerMode = true;
        named.put("PLACE", number("VECTOR"));
    }
}
