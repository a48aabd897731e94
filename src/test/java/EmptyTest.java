/** Every call on an object that is new, or that has persons alone, rules alone, and so on. */
public final class EmptyTest {
    private static final Due due = new Due("EmptyTest");

    public static void main(String[] args) {
        countsAndFindings();
        callsThatAreTaken();
        callsThatAreRefused();
        noRuleAtAll();
        wordsAtFirst();
        bestOfNone();
        checkOfNone();
        personsWithoutRules();
        rulesWithoutPersons();
        examsWithoutExaminers();
        objectsAreApart();
        due.end();
    }

    private static void first(int promise, int want, String call, int... a) {
        BeltHall x = new BeltHall();
        due.is(promise + ": new, " + Face.written(call, a), Face.ask(x, call, a), want);
    }

    private static void countsAndFindings() {
        for (int what = 0; what <= 6; what++) {
            first(1, 0, "count", what);
        }
        for (int k = 1; k <= 5; k++) {
            first(30, 0, "found", k);
        }
    }

    private static void callsThatAreTaken() {
        for (int kind = 0; kind < 3; kind++) {
            first(2, 0, "person", kind, 0, 0);
        }
        first(8, 1, "rule", 1, 0, 0, 0, 0);
        first(19, 0, "go");
        first(22, 0, "exam");
        first(27, 1, "tell", 0);
        first(28, 0, "check", 0);
        first(28, 0, "check", 30000);
    }

    /** There is no person, entry, strike, candidate or exam, so that the least number is beyond, too. */
    private static void callsThatAreRefused() {
        Object[][] calls = {{3, "as", 0, 0}, {4, "licence", 0, 0}, {5, "part", 0, 0, 0}, {5, "part", 0, 0, -1},
            {10, "has", 0, 0, 0, 0}, {11, "why", 0, 0, 1, 0}, {12, "panel", 0, 0, 1, 0, 0}, {13, "give", 0, 0, 1, 0, 0},
            {14, "entry", 0, 0}, {15, "stands", 0, 0}, {16, "strike", 0, 0, 0}, {18, "wait", 0}, {21, "given", 0},
            {23, "mark", 0, 0, 0}, {24, "middle", 0}, {25, "apart", 0, 0}, {26, "hard", 0}};
        for (Object[] row : calls) {
            int[] a = new int[row.length - 2];
            for (int i = 0; i < a.length; i++) {
                a[i] = (Integer) row[i + 2];
            }
            BeltHall x = new BeltHall();
            String written = row[0] + ": new, " + Face.written((String) row[1], a);
            due.is(written, Face.ask(x, (String) row[1], a), Due.BEYOND);
            for (int what = 0; what <= 6; what++) {
                due.is(written + ", then count(" + what + ")", x.count(what), 0);
            }
            due.is(written + " is found", x.found(1), 1);
        }
        first(17, Due.NONE, "unstrike");
    }

    private static void noRuleAtAll() {
        for (int u = 0; u < 3; u++) {
            for (int g = 1; g <= 10; g++) {
                first(9, Due.NONE, "force", u, g, 0);
                first(9, Due.NONE, "force", u, g, 30000);
            }
        }
    }

    private static void wordsAtFirst() {
        BeltHall x = new BeltHall();
        for (int u = 0; u < 3; u++) {
            due.is("7: what was given stands, at first", x.way(u, 0), 0);
            for (int v = 0; v < 3; v++) {
                for (int g = 1; g <= 10; g++) {
                    due.is("6: a worth of 0, at first", x.worth(u, v, g, 0), u == v ? Due.BEYOND : 0);
                }
            }
        }
        for (int p = 0; p < 3; p++) {
            x.person(p, 0, 0);
            due.is("4: a licence up to the greatest day, at first", x.licence(p, 30000), 30000);
            for (int part = 0; part < 8; part++) {
                due.is("5: no part is passed, at first", x.part(p, part, -1), -1);
            }
        }
    }

    private static void bestOfNone() {
        for (int u = 0; u < 3; u++) {
            for (int load = 1; load <= 4; load++) {
                first(20, 0, "best", u, 0, load);
                first(20, 0, "best", u, 30000, load);
            }
        }
        BeltHall x = new BeltHall();
        x.best(0, 0, 1);
        due.is("21: there is no candidate behind best() either", x.given(0), Due.BEYOND);
        x.person(0, 0, 0);
        x.wait(0);
        due.is("21: none were found since one came", x.given(0), Due.STATE);
    }

    private static void checkOfNone() {
        BeltHall x = new BeltHall();
        x.tell(0);
        due.is("28: no entry, one was told", x.check(0), 99);
        due.is("28: no entry, none was told", x.check(0), 0);
        x.tell(-1);
        due.is("28: no entry, a number that is no entry's was told", x.check(30000), 99);
    }

    private static void personsWithoutRules() {
        BeltHall x = new BeltHall();
        for (int p = 0; p < 5; p++) {
            x.person(p == 0 ? 0 : 1, 0, p);
        }
        for (int u = 0; u < 3; u++) {
            due.is("10: without an entry", x.has(0, u, 30000, 30000), 0);
            due.is("11: no rule", x.why(0, u, 1, 0), 1);
            due.is("12: no rule", x.panel(0, u, 1, 0, 14), Due.NONE);
            due.is("13: no rule", x.give(0, u, 1, 0, 14), Due.STATE);
        }
        due.is("16: no entry falls", x.strike(1, 0, 0), 0);
        due.is("17: no strike is left", x.unstrike(), 0);
        due.is("17: there is none", x.unstrike(), Due.NONE);
        x.wait(0);
        due.is("20: no rule", x.best(0, 0, 4), 0);
        due.is("21: no panel", x.given(0), 0);
        due.is("26: no exam", x.hard(1), 0);
    }

    private static void rulesWithoutPersons() {
        BeltHall x = new BeltHall();
        x.rule(1, 0, 0, 0, 0);
        due.is("9: the only one", x.force(0, 1, 0), 0);
        due.is("11: there is no person", x.why(0, 0, 1, 0), Due.BEYOND);
        due.is("12: there is no person", x.panel(0, 0, 1, 0, 0), Due.BEYOND);
        due.is("13: there is no person", x.give(0, 0, 1, 0, 0), Due.BEYOND);
        due.is("20: there is no candidate", x.best(0, 0, 1), 0);
    }

    private static void examsWithoutExaminers() {
        BeltHall x = new BeltHall();
        x.exam();
        due.is("23: there is no person", x.mark(0, 0, 0), Due.BEYOND);
        due.is("24: no marks", x.middle(0), Due.STATE);
        due.is("25: no marks", x.apart(0, 0), Due.STATE);
        x.person(0, 0, 0);
        due.is("23: a pupil", x.mark(0, 0, 0), Due.KIND);
        due.is("24: no marks still", x.middle(0), Due.STATE);
    }

    /** What one object was told is nothing to a new one. */
    private static void objectsAreApart() {
        BeltHall x = new BeltHall();
        x.person(1, 0, 0);
        x.rule(1, 0, 0, 0, 0);
        x.worth(0, 1, 1, 5);
        x.way(0, 1);
        x.strike(0, 0, 0);
        x.wait(0);
        x.exam();
        x.tell(3);
        x.count(7);
        BeltHall y = new BeltHall();
        for (int what = 0; what <= 6; what++) {
            due.is("1: another new one, count(" + what + ")", y.count(what), 0);
            due.is("29: the first, count(" + what + ")", x.count(what), what == 2 ? 0 : 1);
        }
        due.is("6: another new one", y.worth(0, 1, 1, 0), 0);
        due.is("7: another new one", y.way(0, 0), 0);
        due.is("30: another new one", y.found(1), 0);
    }
}
