/** The parts o, a, b, c of an instruction packed as code() takes them, by name. */
final class Op {
    static final int HALT = 0;
    static final int TRAP = 20;
    static final int LEAVE = 24;

    private Op() {
    }

    static int of(int o, int a, int b, int c) {
        return o + 32 * a + 256 * b + 2048 * c;
    }

    static int of(int o, int a) {
        return of(o, a, 0, 0);
    }

    static int set(int a) {
        return of(1, a);
    }

    static int load(int a, int b) {
        return of(12, a, b, 0);
    }

    static int store(int a, int b) {
        return of(13, a, b, 0);
    }

    static int table(int a) {
        return of(21, a);
    }

    static int paging(int a) {
        return of(22, a);
    }

    static int vector(int a) {
        return of(23, a);
    }

    static int read(int a) {
        return of(25, a);
    }

    static int print(int a) {
        return of(26, a);
    }

    static int jump() {
        return 17;
    }

    static int jumpTo(int a) {
        return of(19, a);
    }
}
