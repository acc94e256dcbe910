/** Counts and prints the answers that are not the ones that are due. */
final class Due {
    private final String name;
    private int asked;
    private int wrong;

    Due(String name) {
        this.name = name;
    }

    void same(String what, long got, long want) {
        asked++;
        if (got != want) {
            wrong++;
            System.out.println(name + ": " + what + " answered " + got + ", due is " + want);
        }
    }

    void holds(String what, boolean truth) {
        same(what, truth ? 1 : 0, 1);
    }

    /** What end() tells of the value of an END: none, a number, a row, a fault. */
    void noEnd(TokenFloor x, int e) {
        value(x, e, 0, -1, -1);
    }

    void number(TokenFloor x, int e, int number) {
        value(x, e, 1, number, -1);
    }

    void row(TokenFloor x, int e, int cells) {
        value(x, e, 2, cells, -1);
    }

    void fault(TokenFloor x, int e, int cause, int act) {
        value(x, e, 3, cause, act);
    }

    private void value(TokenFloor x, int e, int sort, int content, int act) {
        same("end(" + e + ", 0)", x.end(e, 0), sort);
        same("end(" + e + ", 1)", x.end(e, 1), content);
        same("end(" + e + ", 2)", x.end(e, 2), act);
    }

    int asked() {
        return asked;
    }

    int wrong() {
        return wrong;
    }

    void close() {
        System.out.println(name + ": " + asked + " answers asked, " + wrong + " wrong");
        if (wrong != 0) {
            System.exit(1);
        }
    }
}
