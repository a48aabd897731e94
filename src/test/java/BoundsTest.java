/**
 * Each argument of each call: the least and the greatest number that is taken, the one below, the one
 * above, and ints far away up to both ends of their range.
 */
public final class BoundsTest {
    private static final Due due = new Due("BoundsTest");
    private static final int MIN = Integer.MIN_VALUE;
    private static final int MAX = Integer.MAX_VALUE;
    /** Those with 32, 64 and the powers above them would be taken if a shift or a cast wrapped them around. */
    private static final int[] FAR = {MIN, MIN + 1, MIN + 14, -1000001, -65536, -256, -100, -32, -16, -3, -2, -1, 0, 11, 32,
        33, 64, 65, 101, 256, 257, 4097, 30001, 65536, 65537, 1 << 20, 1 << 30, 1 << 30 | 14, MAX - 1, MAX};

    public static void main(String[] args) {
        person();
        as();
        licence();
        part();
        worth();
        way();
        rule();
        ruleByItsFirstNumber();
        ruleByItsLastNumber();
        force();
        has();
        why();
        panel();
        panelByItsBits();
        give();
        giveTheTenth();
        entry();
        stands();
        strike();
        waiting();
        best();
        given();
        mark();
        middle();
        apart();
        hard();
        tell();
        check();
        count();
        found();
        due.end();
    }

    /**
     * Pupil 0 of hall 7, examiners 1 .. 5 of halls 1 .. 5, child 6 of hall 0; the 30 rules without bounds;
     * an entry of pupil 0 (union 0, day 0) and one of child 6 (union 2, day 10); examiner 5 is struck from
     * day 20000 on, told on day 30000; exam 0 has five marks, exam 1 none; 0 and 6 wait; 0 and 1 were told.
     */
    private static BeltHall hall() {
        BeltHall x = new BeltHall();
        x.person(0, 0, 7);
        for (int i = 1; i <= 5; i++) {
            x.person(1, 0, i);
        }
        x.person(2, 0, 0);
        for (int u = 0; u < 3; u++) {
            for (int g = 1; g <= 10; g++) {
                x.rule(100 * u + g, 0, 0, 0, 0);
            }
        }
        x.give(0, 0, 1, 0, 14);
        x.give(6, 2, 1, 10, 28);
        x.strike(5, 20000, 30000);
        x.exam();
        x.exam();
        for (int p = 1; p <= 5; p++) {
            x.mark(0, p, 10 * p);
        }
        x.wait(0);
        x.wait(6);
        x.tell(0);
        x.tell(1);
        return x;
    }

    private static int[] with(int[] base, int at, int n) {
        int[] a = base.clone();
        a[at] = n;
        return a;
    }

    private static void taken(int promise, String call, int want, int... a) {
        due.is(promise + ": " + Face.written(call, a), Face.ask(hall(), call, a), want);
    }

    private static void refused(int promise, String call, int... a) {
        BeltHall x = hall();
        String written = promise + ": " + Face.written(call, a);
        due.is(written, Face.ask(x, call, a), Due.BEYOND);
        due.is(written + " is found", x.found(1), 1);
    }

    /** The argument at a place is taken from the least to the most, with those answers at the ends. */
    private static void edges(int promise, String call, int at, int[] least, int[] most, int... base) {
        taken(promise, call, least[1], with(base, at, least[0]));
        taken(promise, call, most[1], with(base, at, most[0]));
        refused(promise, call, with(base, at, least[0] - 1));
        refused(promise, call, with(base, at, most[0] + 1));
        for (int n : FAR) {
            int[] a = with(base, at, n);
            if (n < least[0] || n > most[0]) {
                refused(promise, call, a);
            } else {
                due.holds(promise + ": " + Face.written(call, a) + " is taken", Face.ask(hall(), call, a) != Due.BEYOND);
            }
        }
    }

    private static int[] gives(int n, int answer) {
        return new int[] {n, answer};
    }

    private static void person() {
        edges(2, "person", 0, gives(0, 7), gives(2, 7), 0, 0, 0);
        edges(2, "person", 1, gives(0, 7), gives(30000, 7), 0, 0, 0);
        edges(2, "person", 2, gives(0, 7), gives(7, 7), 0, 0, 0);
    }

    private static void as() {
        edges(3, "as", 0, gives(0, 7), gives(6, 0), 0, 0);
        edges(3, "as", 1, gives(0, 0), gives(2, 0), 6, 0);
        taken(3, "as", Due.KIND, 6, 1);
    }

    private static void licence() {
        edges(4, "licence", 0, gives(0, 30000), gives(6, 30000), 0, 5);
        edges(4, "licence", 1, gives(0, 30000), gives(30000, 30000), 0, 5);
    }

    private static void part() {
        edges(5, "part", 0, gives(0, -1), gives(6, -1), 0, 0, 5);
        edges(5, "part", 1, gives(0, -1), gives(7, -1), 6, 0, 5);
        edges(5, "part", 2, gives(-1, -1), gives(30000, -1), 6, 7, 5);
        BeltHall x = hall();
        int[] days = {30000, 0, -1, -1, 0};
        int was = -1;
        for (int day : days) {
            due.is("5: the greatest day, the least, and not", x.part(6, 7, day), was);
            was = day;
        }
    }

    private static void worth() {
        edges(6, "worth", 0, gives(0, 0), gives(2, 0), 0, 1, 1, 1);
        edges(6, "worth", 1, gives(0, 0), gives(2, 0), 1, 0, 1, 1);
        edges(6, "worth", 2, gives(1, 0), gives(10, 0), 0, 1, 1, 1);
        edges(6, "worth", 3, gives(0, 0), gives(10, 0), 2, 1, 10, 1);
        for (int u = 0; u < 3; u++) {
            refused(6, "worth", u, u, 1, 1);
            refused(6, "worth", u, u, 10, 10);
        }
        BeltHall x = hall();
        due.is("6: the greatest", x.worth(2, 1, 10, 10), 0);
        due.is("6: the least", x.worth(2, 1, 10, 0), 10);
        due.is("6: none again", x.worth(2, 1, 10, 0), 0);
    }

    private static void way() {
        edges(7, "way", 0, gives(0, 0), gives(2, 0), 0, 1);
        edges(7, "way", 1, gives(0, 0), gives(1, 0), 2, 0);
    }

    private static void rule() {
        taken(8, "rule", 31, 1, 0, 0, 0, 0);
        taken(8, "rule", 31, 210, 30000, 4000, 20000, 4090);
        edges(8, "rule", 1, gives(0, 31), gives(30000, 31), 1, 0, 0, 0, 0);
        edges(8, "rule", 2, gives(0, 31), gives(4000, 31), 1, 0, 0, 0, 0);
        edges(8, "rule", 3, gives(0, 31), gives(20000, 31), 1, 0, 0, 0, 0);
    }

    /** 100 times a union 0 .. 2, and a grade 1 .. 10. */
    private static void ruleByItsFirstNumber() {
        for (int first = -320; first <= 520; first++) {
            boolean isRule = first >= 1 && first <= 10 || first >= 101 && first <= 110 || first >= 201 && first <= 210;
            if (isRule) {
                taken(8, "rule", 31, first, 0, 0, 0, 0);
            } else {
                refused(8, "rule", first, 0, 0, 0, 0);
            }
        }
        int[] far = {MIN, MIN + 1, MIN + 101, 65537, 1 << 30, MAX - 1, MAX};
        for (int first : far) {
            refused(8, "rule", first, 0, 0, 0, 0);
        }
    }

    /** 16 times the bits of parts 0 .. 7, and what each of a panel must have, 0 .. 10. */
    private static void ruleByItsLastNumber() {
        for (int parts = 0; parts <= 255; parts++) {
            for (int need = 0; need <= 15; need++) {
                if (need <= 10) {
                    taken(8, "rule", 31, 1, 0, 0, 0, 16 * parts + need);
                } else {
                    refused(8, "rule", 1, 0, 0, 0, 16 * parts + need);
                }
            }
        }
        int[] beyond = {-1, -5, -16, -4096, 4096, 4097, 4106, 8192, 65536, 65537, 1 << 30, MIN, MIN + 1, MIN + 16, MAX - 15, MAX};
        for (int last : beyond) {
            refused(8, "rule", 1, 0, 0, 0, last);
        }
    }

    private static void force() {
        edges(9, "force", 0, gives(0, 0), gives(2, 20), 0, 1, 0);
        edges(9, "force", 1, gives(1, 0), gives(10, 9), 0, 1, 0);
        edges(9, "force", 2, gives(0, 29), gives(30000, 29), 2, 10, 0);
    }

    private static void has() {
        edges(10, "has", 0, gives(0, 1), gives(6, 0), 0, 0, 30000, 30000);
        edges(10, "has", 1, gives(0, 0), gives(2, 1), 6, 0, 30000, 30000);
        edges(10, "has", 2, gives(0, 0), gives(30000, 1), 6, 2, 0, 30000);
        edges(10, "has", 3, gives(0, 1), gives(30000, 1), 6, 2, 30000, 0);
    }

    private static void why() {
        edges(11, "why", 0, gives(0, 0), gives(6, 0), 0, 1, 1, 30000);
        edges(11, "why", 1, gives(0, 2), gives(2, 0), 0, 0, 1, 30000);
        edges(11, "why", 2, gives(1, 0), gives(10, 2), 1, 0, 1, 30000);
        edges(11, "why", 3, gives(0, 0), gives(30000, 0), 1, 0, 1, 0);
    }

    private static void panel() {
        edges(12, "panel", 0, gives(0, 0), gives(6, 0), 0, 1, 1, 0, 28);
        edges(12, "panel", 1, gives(0, 0), gives(2, 0), 0, 0, 1, 0, 28);
        edges(12, "panel", 2, gives(1, 0), gives(10, 0), 0, 0, 1, 0, 28);
        edges(12, "panel", 3, gives(0, 0), gives(30000, 5), 0, 0, 1, 0, 56);
        edges(12, "panel", 4, gives(0, 1), gives(127, 1), 0, 0, 1, 0, 28);
    }

    /** Each bit that is no person's is beyond, alone or beside a panel that may. */
    private static void panelByItsBits() {
        for (int bit = 7; bit < 32; bit++) {
            refused(12, "panel", 0, 0, 1, 0, 1 << bit);
            refused(12, "panel", 0, 0, 1, 0, 1 << bit | 28);
            refused(13, "give", 1, 0, 1, 10, 1 << bit | 28);
        }
        BeltHall x = new BeltHall();
        for (int p = 0; p < 20; p++) {
            x.person(p < 6 ? 1 : 0, 0, p % 8);
        }
        x.rule(1, 0, 0, 0, 0);
        due.is("12: all bits of twenty persons", x.panel(19, 0, 1, 0, (1 << 20) - 1), 1);
        due.is("12: the twentieth's bit", x.panel(0, 0, 1, 0, 1 << 19 | 6), 2);
        due.is("12: a bit above the twentieth's", x.panel(0, 0, 1, 0, 1 << 20 | 6), Due.BEYOND);
        due.is("12: the last three examiners", x.panel(18, 0, 1, 0, 56), 0);
    }

    private static void give() {
        edges(13, "give", 0, gives(0, 2), gives(6, 2), 0, 1, 1, 10, 28);
        edges(13, "give", 1, gives(0, 2), gives(2, 2), 1, 0, 1, 10, 28);
        edges(13, "give", 2, gives(1, 2), gives(10, Due.STATE), 1, 0, 1, 10, 28);
        edges(13, "give", 3, gives(10, 2), gives(30000, 2), 1, 0, 1, 10, 28);
        edges(13, "give", 4, gives(0, Due.STATE), gives(127, Due.STATE), 1, 0, 1, 10, 28);
        BeltHall x = hall();
        x.give(1, 0, 1, 30000, 28);
        due.is("13: once more on the greatest day", x.give(1, 0, 2, 30000, 28), 3);
        due.is("13: the day ahead of it", x.give(1, 0, 3, 29999, 28), Due.BEYOND);
    }

    private static void giveTheTenth() {
        BeltHall x = hall();
        x.worth(1, 0, 1, 9);
        due.is("13: the greatest grade", x.give(0, 1, 10, 10, 28), 2);
        due.is("14: it is the tenth", x.entry(2, 2), 10);
        due.is("10: it has the tenth", x.has(0, 1, 10, 10), 10);
        due.is("13: there is none above it", x.give(0, 1, 11, 10, 28), Due.BEYOND);
        due.is("13: nor that one again", x.give(0, 1, 10, 10, 28), Due.STATE);
    }

    private static void entry() {
        edges(14, "entry", 0, gives(0, 0), gives(1, 6), 0, 0);
        edges(14, "entry", 1, gives(0, 6), gives(4, 28), 1, 0);
    }

    private static void stands() {
        edges(15, "stands", 0, gives(0, 1), gives(1, 1), 0, 0);
        edges(15, "stands", 1, gives(0, 1), gives(30000, 1), 1, 0);
    }

    private static void strike() {
        edges(16, "strike", 0, gives(0, Due.KIND), gives(6, Due.KIND), 0, 0, 0);
        taken(16, "strike", 0, 1, 0, 0);
        taken(16, "strike", 0, 5, 0, 0);
        edges(16, "strike", 1, gives(0, 0), gives(30000, 0), 1, 0, 0);
        edges(16, "strike", 2, gives(0, 0), gives(30000, 0), 1, 0, 0);
    }

    private static void waiting() {
        edges(18, "wait", 0, gives(0, Due.STATE), gives(6, Due.STATE), 0);
        int[] ends = {0, 6};
        for (int p : ends) {
            BeltHall x = hall();
            x.go();
            due.is("18: wait(" + p + ")", x.wait(p), 1);
        }
    }

    private static void best() {
        edges(20, "best", 0, gives(0, 1), gives(2, 1), 0, 30000, 1);
        edges(20, "best", 1, gives(0, 1), gives(30000, 1), 0, 0, 1);
        edges(20, "best", 2, gives(1, 1), gives(4, 2), 0, 30000, 1);
    }

    private static void given() {
        edges(21, "given", 0, gives(0, Due.STATE), gives(1, Due.STATE), 0);
        BeltHall x = hall();
        x.best(0, 30000, 1);
        due.is("21: the first", x.given(0), 14);
        due.is("21: the last", x.given(1), 0);
        int[] beyond = {-1, 2, 3, 4, 5, MIN, MAX};
        for (int i : beyond) {
            due.is("21: given(" + i + ") behind best()", x.given(i), Due.BEYOND);
        }
    }

    private static void mark() {
        edges(23, "mark", 0, gives(0, 5), gives(1, 1), 0, 1, 0);
        edges(23, "mark", 1, gives(0, Due.KIND), gives(6, Due.KIND), 1, 0, 0);
        taken(23, "mark", 1, 1, 1, 0);
        taken(23, "mark", 1, 1, 5, 0);
        edges(23, "mark", 2, gives(0, 1), gives(100, 1), 1, 1, 0);
    }

    private static void middle() {
        edges(24, "middle", 0, gives(0, 30), gives(1, Due.STATE), 0);
    }

    private static void apart() {
        edges(25, "apart", 0, gives(0, 4), gives(1, Due.STATE), 0, 0);
        edges(25, "apart", 1, gives(0, 4), gives(100, 0), 0, 0);
        refused(25, "apart", 1, 101);
    }

    private static void hard() {
        edges(26, "hard", 0, gives(0, Due.KIND), gives(6, Due.KIND), 0);
        taken(26, "hard", -20, 1);
        taken(26, "hard", 20, 5);
    }

    private static void tell() {
        for (int v : FAR) {
            taken(27, "tell", 3, v);
        }
    }

    private static void check() {
        edges(28, "check", 0, gives(0, 0), gives(30000, 0), 0);
        int[] beyond = {MIN, -1, 30001, MAX};
        for (int known : beyond) {
            BeltHall x = hall();
            x.check(known);
            due.is("28: gone behind check(" + known + ")", x.count(6), 0);
        }
    }

    private static void count() {
        edges(29, "count", 0, gives(0, 7), gives(6, 2), 0);
    }

    private static void found() {
        edges(30, "found", 0, gives(1, 0), gives(5, 0), 1);
    }
}
