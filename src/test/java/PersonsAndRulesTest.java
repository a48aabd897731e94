/** Promises 1 to 9. */
public final class PersonsAndRulesTest {
    private static final Due due = new Due("PersonsAndRulesTest");
    private static final int MIN = Integer.MIN_VALUE;
    private static final int MAX = Integer.MAX_VALUE;

    public static void main(String[] args) {
        newObject();
        persons();
        personsAreFull();
        kinds();
        licences();
        parts();
        worths();
        ways();
        rules();
        rulesAreFull();
        inForce();
        firstRuleIsLatest();
        due.end();
    }

    private static void newObject() {
        BeltHall x = new BeltHall();
        for (int what = 0; what <= 6; what++) {
            due.is("1: count(" + what + ")", x.count(what), 0);
        }
        for (int k = 1; k <= 5; k++) {
            due.is("1: found(" + k + ")", x.found(k), 0);
        }
        due.is("1: force", x.force(0, 1, 30000), Due.NONE);
        due.is("1: go", x.go(), 0);
        due.is("1: check", x.check(0), 0);
    }

    private static void persons() {
        BeltHall x = new BeltHall();
        due.is("2: the least", x.person(0, 0, 0), 0);
        due.is("2: the greatest", x.person(2, 30000, 7), 1);
        int[][] beyond = {{-1, 0, 0}, {3, 0, 0}, {0, -1, 0}, {0, 30001, 0}, {0, 0, -1}, {0, 0, 8},
            {MIN, 0, 0}, {MAX, 0, 0}, {0, MIN, 0}, {0, MAX, 0}, {0, 0, MIN}, {0, 0, MAX}};
        for (int[] b : beyond) {
            due.is("2: beyond", x.person(b[0], b[1], b[2]), Due.BEYOND);
        }
        due.is("2: none of these came", x.count(0), 2);
        due.is("2: all were found", x.found(1), beyond.length);
    }

    private static void personsAreFull() {
        BeltHall x = new BeltHall();
        for (int i = 0; i < 6; i++) {
            due.is("2: examiner", x.person(1, 0, i), i);
        }
        due.is("2: a seventh examiner", x.person(1, 0, 0), Due.FULL);
        due.is("2: beyond is asked first", x.person(1, 0, 8), Due.BEYOND);
        for (int i = 6; i < 20; i++) {
            due.is("2: pupil", x.person(i % 2 * 2, 0, 0), i);
        }
        due.is("2: one more pupil", x.person(0, 0, 0), Due.FULL);
        due.is("2: one more child", x.person(2, 0, 0), Due.FULL);
        due.is("2: twenty", x.count(0), 20);
        due.is("2: full told", x.found(4), 3);
        BeltHall y = new BeltHall();
        for (int i = 0; i < 20; i++) {
            y.person(0, 0, 0);
        }
        due.is("2: no examiner after twenty", y.person(1, 0, 0), Due.FULL);
    }

    private static void kinds() {
        BeltHall x = new BeltHall();
        x.person(0, 0, 3);
        x.person(1, 0, 4);
        x.person(2, 0, 5);
        int[][] want = {{3, Due.KIND, Due.KIND}, {4, 4, Due.KIND}, {5, Due.KIND, 5}};
        for (int p = 0; p < 3; p++) {
            for (int kind = 0; kind < 3; kind++) {
                due.is("3: as(" + p + ", " + kind + ")", x.as(p, kind), want[p][kind]);
            }
        }
        due.is("3: kinds told", x.found(5), 4);
        due.is("3: no such person", x.as(3, 0), Due.BEYOND);
        due.is("3: no such person", x.as(-1, 0), Due.BEYOND);
        due.is("3: no such kind", x.as(0, 3), Due.BEYOND);
        due.is("3: no such kind", x.as(0, -1), Due.BEYOND);
    }

    private static void licences() {
        BeltHall x = new BeltHall();
        x.person(0, 0, 0);
        x.person(1, 0, 1);
        due.is("4: at first", x.licence(0, 0), 30000);
        due.is("4: then", x.licence(0, 30000), 0);
        due.is("4: beyond", x.licence(0, 30001), Due.BEYOND);
        due.is("4: beyond", x.licence(0, -1), Due.BEYOND);
        due.is("4: no such person", x.licence(2, 5), Due.BEYOND);
        due.is("4: no such person", x.licence(-1, 5), Due.BEYOND);
        due.is("4: a finding changes nothing", x.licence(0, 7), 30000);
        due.is("4: another's own", x.licence(1, 7), 30000);
    }

    private static void parts() {
        BeltHall x = new BeltHall();
        x.person(0, 0, 0);
        x.person(0, 0, 0);
        for (int part = 0; part < 8; part++) {
            due.is("5: at first", x.part(0, part, part), -1);
        }
        due.is("5: the latest told holds", x.part(0, 7, 30000), 7);
        due.is("5: an earlier day, too", x.part(0, 7, 0), 30000);
        due.is("5: not passed", x.part(0, 7, -1), 0);
        due.is("5: not passed before", x.part(0, 7, 1), -1);
        due.is("5: others stay", x.part(0, 6, 1), 6);
        due.is("5: another's own", x.part(1, 0, 1), -1);
        int[][] beyond = {{2, 0, 0}, {-1, 0, 0}, {0, 8, 0}, {0, -1, 0}, {0, 0, -2}, {0, 0, 30001},
            {MAX, 0, 0}, {MIN, 0, 0}, {0, MAX, 0}, {0, MIN, 0}, {0, 0, MAX}, {0, 0, MIN}};
        for (int[] b : beyond) {
            due.is("5: beyond", x.part(b[0], b[1], b[2]), Due.BEYOND);
        }
        due.is("5: a finding changes nothing", x.part(0, 0, 9), 0);
    }

    private static void worths() {
        BeltHall x = new BeltHall();
        int told = 0;
        for (int u = 0; u < 3; u++) {
            for (int v = 0; v < 3; v++) {
                for (int g = 1; g <= 10; g++) {
                    int want = u == v ? Due.BEYOND : 0;
                    due.is("6: at first", x.worth(u, v, g, told++ % 11), want);
                }
            }
        }
        told = 0;
        for (int u = 0; u < 3; u++) {
            for (int v = 0; v < 3; v++) {
                for (int g = 1; g <= 10; g++) {
                    int want = u == v ? Due.BEYOND : told % 11;
                    told++;
                    due.is("6: what was told", x.worth(u, v, g, 10), want);
                }
            }
        }
        int[][] beyond = {{-1, 0, 1, 1}, {3, 0, 1, 1}, {0, -1, 1, 1}, {0, 3, 1, 1}, {0, 1, 0, 1}, {0, 1, 11, 1},
            {0, 1, 1, -1}, {0, 1, 1, 11}, {MAX, 0, 1, 1}, {0, MIN, 1, 1}, {0, 1, MAX, 1}, {0, 1, MIN, 1}};
        for (int[] b : beyond) {
            due.is("6: beyond", x.worth(b[0], b[1], b[2], b[3]), Due.BEYOND);
        }
        due.is("6: a finding changes nothing", x.worth(0, 1, 1, 0), 10);
    }

    private static void ways() {
        BeltHall x = new BeltHall();
        for (int u = 0; u < 3; u++) {
            due.is("7: at first", x.way(u, 1), 0);
        }
        due.is("7: then", x.way(1, 0), 1);
        due.is("7: then", x.way(1, 1), 0);
        due.is("7: others stay", x.way(2, 1), 1);
        int[][] beyond = {{-1, 0}, {3, 0}, {0, -1}, {0, 2}, {MIN, 0}, {MAX, 0}, {0, MIN}, {0, MAX}};
        for (int[] b : beyond) {
            due.is("7: beyond", x.way(b[0], b[1]), Due.BEYOND);
        }
        due.is("7: a finding changes nothing", x.way(0, 0), 1);
    }

    private static void rules() {
        BeltHall x = new BeltHall();
        int[][] beyond = {{0, 0, 0, 0, 0}, {11, 0, 0, 0, 0}, {100, 0, 0, 0, 0}, {111, 0, 0, 0, 0}, {211, 0, 0, 0, 0},
            {301, 0, 0, 0, 0}, {-1, 0, 0, 0, 0}, {-99, 0, 0, 0, 0}, {MIN, 0, 0, 0, 0}, {MAX, 0, 0, 0, 0},
            {1, -1, 0, 0, 0}, {1, 30001, 0, 0, 0}, {1, 0, -1, 0, 0}, {1, 0, 4001, 0, 0}, {1, 0, 0, -1, 0},
            {1, 0, 0, 20001, 0}, {1, 0, 0, 0, -1}, {1, 0, 0, 0, 11}, {1, 0, 0, 0, 15}, {1, 0, 0, 0, 27},
            {1, 0, 0, 0, 4091}, {1, 0, 0, 0, 4096}, {1, 0, 0, 0, MAX}, {1, 0, 0, 0, MIN}, {1, 0, 0, 0, -16}};
        for (int[] b : beyond) {
            due.is("8: beyond " + b[0] + " " + b[4], x.rule(b[0], b[1], b[2], b[3], b[4]), Due.BEYOND);
        }
        due.is("8: none came", x.count(1), 0);
        due.is("8: the least", x.rule(1, 0, 0, 0, 0), 1);
        due.is("8: the greatest", x.rule(210, 30000, 4000, 20000, 4090), 2);
        due.is("8: two", x.count(1), 2);
    }

    private static void rulesAreFull() {
        BeltHall x = new BeltHall();
        for (int i = 1; i <= 40; i++) {
            due.is("8: rule", x.rule(1, i, 0, 0, 0), i);
        }
        due.is("8: one more", x.rule(1, 0, 0, 0, 0), Due.FULL);
        due.is("8: beyond is asked first", x.rule(0, 0, 0, 0, 0), Due.BEYOND);
        due.is("8: forty", x.count(1), 40);
        due.is("9: the last", x.force(0, 1, 30000), 39);
        due.is("9: the one that didn't come", x.force(0, 1, 0), Due.NONE);
    }

    private static void inForce() {
        BeltHall x = new BeltHall();
        x.rule(105, 100, 0, 0, 0);
        x.rule(105, 50, 0, 0, 0);
        x.rule(105, 100, 0, 0, 0);
        x.rule(105, 75, 0, 0, 0);
        x.rule(106, 0, 0, 0, 0);
        x.rule(205, 0, 0, 0, 0);
        due.is("9: ahead of all", x.force(1, 5, 49), Due.NONE);
        due.is("9: on its day", x.force(1, 5, 50), 1);
        due.is("9: ahead of the next", x.force(1, 5, 74), 1);
        due.is("9: the next", x.force(1, 5, 75), 3);
        due.is("9: the last told of a day", x.force(1, 5, 100), 2);
        due.is("9: later", x.force(1, 5, 30000), 2);
        due.is("9: another grade", x.force(1, 6, 49), 4);
        due.is("9: another union", x.force(2, 5, 49), 5);
        due.is("9: no rule", x.force(0, 5, 30000), Due.NONE);
        x.rule(7, 100, 0, 0, 0);
        x.rule(7, 50, 0, 0, 0);
        due.is("9: told first, of the later day", x.force(0, 7, 100), 6);
        int[][] beyond = {{-1, 5, 0}, {3, 5, 0}, {1, 0, 0}, {1, 11, 0}, {1, 5, -1}, {1, 5, 30001}, {0, 105, 100}};
        for (int[] b : beyond) {
            due.is("9: beyond", x.force(b[0], b[1], b[2]), Due.BEYOND);
        }
        due.is("9: none were told", x.found(2), 2);
    }

    private static void firstRuleIsLatest() {
        BeltHall x = new BeltHall();
        x.rule(1, 100, 0, 0, 0);
        x.rule(1, 50, 0, 0, 0);
        due.is("9: rule 0 is of the later day", x.force(0, 1, 100), 0);
        due.is("9: rule 1 is in force ahead of it", x.force(0, 1, 99), 1);
    }
}
