/** Promises 10 to 17. */
public final class CardsTest {
    private static final Due due = new Due("CardsTest");
    private static final int MIN = Integer.MIN_VALUE;
    private static final int MAX = Integer.MAX_VALUE;
    /** The examiners 1, 2 and 3. */
    private static final int PANEL = 14;

    public static void main(String[] args) {
        has();
        hasUpToTen();
        whyByRuleAndGrade();
        whyByLicenceAndAge();
        whyByDays();
        whyByParts();
        whyAsKnown();
        panel();
        panelByStrikes();
        panelByGrades();
        give();
        entriesAreFull();
        entry();
        standsByWay();
        standsByWhatLeansOnIt();
        strike();
        strikesAreFull();
        unstrike();
        due.end();
    }

    /** Pupil 0, examiners 1, 2, 3 and 4, child 5, each of a hall of its own; rules without bounds. */
    private static BeltHall hall() {
        BeltHall x = new BeltHall();
        x.person(0, 0, 0);
        for (int i = 1; i <= 4; i++) {
            x.person(1, 0, i);
        }
        x.person(2, 0, 5);
        for (int u = 0; u < 3; u++) {
            for (int g = 1; g <= 10; g++) {
                x.rule(100 * u + g, 0, 0, 0, 0);
            }
        }
        return x;
    }

    private static void has() {
        BeltHall x = hall();
        due.is("10: without", x.has(0, 0, 30000, 30000), 0);
        x.give(0, 0, 1, 10, PANEL);
        x.give(0, 0, 2, 20, PANEL);
        x.give(5, 0, 1, 20, PANEL);
        due.is("10: ahead", x.has(0, 0, 9, 30000), 0);
        due.is("10: on the day", x.has(0, 0, 10, 0), 1);
        due.is("10: till the next", x.has(0, 0, 19, 0), 1);
        due.is("10: the next", x.has(0, 0, 20, 0), 2);
        due.is("10: another's", x.has(5, 0, 20, 0), 1);
        due.is("10: worth nothing at first", x.has(0, 1, 20, 0), 0);
        x.worth(1, 0, 1, 7);
        x.worth(1, 0, 2, 4);
        due.is("10: the greatest worth", x.has(0, 1, 20, 0), 7);
        due.is("10: the other way", x.has(0, 2, 20, 0), 0);
        x.way(0, 1);
        x.strike(1, 15, 100);
        due.is("10: not yet known", x.has(0, 0, 30000, 99), 2);
        due.is("10: known", x.has(0, 0, 30000, 100), 1);
        due.is("10: known later, of an earlier day", x.has(5, 0, 20, 100), 0);
        int[][] beyond = {{-1, 0, 0, 0}, {6, 0, 0, 0}, {0, -1, 0, 0}, {0, 3, 0, 0}, {0, 0, -1, 0}, {0, 0, 30001, 0},
            {0, 0, 0, -1}, {0, 0, 0, 30001}, {MAX, 0, 0, 0}, {0, MIN, 0, 0}, {0, 0, MAX, 0}, {0, 0, 0, MIN}};
        for (int[] b : beyond) {
            due.is("10: beyond", x.has(b[0], b[1], b[2], b[3]), Due.BEYOND);
        }
    }

    private static void hasUpToTen() {
        BeltHall x = hall();
        for (int g = 1; g <= 10; g++) {
            due.is("13: one grade more", x.give(0, 2, g, g, PANEL), g - 1);
            due.is("10: one grade more", x.has(0, 2, g, g), g);
            due.is("10: not in another union", x.has(0, 1, g, g), 0);
        }
    }

    private static void whyByRuleAndGrade() {
        BeltHall x = hall();
        int[][] beyond = {{-1, 0, 1, 0}, {6, 0, 1, 0}, {0, -1, 1, 0}, {0, 3, 1, 0}, {0, 0, 0, 0}, {0, 0, 11, 0},
            {0, 0, 1, -1}, {0, 0, 1, 30001}, {MAX, 0, 1, 0}, {0, MIN, 1, 0}, {0, 0, MAX, 0}, {0, 0, 1, MIN}};
        for (int[] b : beyond) {
            due.is("11: beyond", x.why(b[0], b[1], b[2], b[3]), Due.BEYOND);
        }
        for (int g = 1; g <= 5; g++) {
            due.is("11: a pupil, next " + g, x.why(0, 0, g, 9), 0);
            due.is("11: a child, next " + g, x.why(5, 0, g, 9), g > 4 ? 1 : 0);
            due.is("11: two above", x.why(0, 0, g + 1, 9), 2);
            x.give(0, 0, g, 9, PANEL);
            x.give(5, 0, g, 9, PANEL);
            due.is("11: what it has", x.why(0, 0, g, 9), 2);
        }
        due.is("11: a child's fifth didn't come", x.count(2), 9);
        due.is("11: not yet on an earlier day", x.why(0, 0, 6, 8), 2);
        BeltHall y = new BeltHall();
        y.person(0, 0, 0);
        y.rule(1, 100, 0, 0, 0);
        due.is("11: no rule yet", y.why(0, 0, 1, 99), 1);
        due.is("11: a rule", y.why(0, 0, 1, 100), 0);
        due.is("11: no rule at all", y.why(0, 0, 2, 100), 1);
    }

    private static void whyByLicenceAndAge() {
        BeltHall x = new BeltHall();
        x.person(0, 1000, 0);
        x.rule(1, 0, 0, 365, 0);
        x.rule(2, 0, 0, 0, 0);
        x.licence(0, 1200);
        due.is("11: too young", x.why(0, 0, 1, 1200), 4);
        due.is("11: licence ahead of age", x.why(0, 0, 1, 1201), 3);
        due.is("11: grade ahead of licence", x.why(0, 0, 2, 1201), 2);
        x.licence(0, 2000);
        due.is("11: a day too young", x.why(0, 0, 1, 1364), 4);
        due.is("11: of age", x.why(0, 0, 1, 1365), 0);
        due.is("11: the last day of the licence", x.why(0, 0, 1, 2000), 0);
        due.is("11: a day more", x.why(0, 0, 1, 2001), 3);
        x.rule(1, 0, 0, 0, 0);
        due.is("11: on the day of birth", x.why(0, 0, 1, 1000), 0);
        due.is("11: not born yet is younger than 0 days", x.why(0, 0, 1, 999), 4);
    }

    private static void whyByDays() {
        BeltHall x = hall();
        x.rule(2, 0, 101, 0, 0);
        x.rule(101, 0, 101, 0, 0);
        due.is("11: no entry yet", x.why(0, 1, 1, 0), 0);
        x.give(0, 0, 1, 1000, PANEL);
        x.give(5, 0, 1, 1000, PANEL);
        due.is("11: a day too early", x.why(0, 0, 2, 1100), 5);
        due.is("11: days enough", x.why(0, 0, 2, 1101), 0);
        due.is("11: of any union", x.why(0, 1, 1, 1100), 5);
        due.is("11: of any union", x.why(0, 1, 1, 1101), 0);
        due.is("11: entries of later days don't count", x.why(0, 1, 1, 999), 0);
        due.is("11: a child, half of these, cut", x.why(5, 0, 2, 1049), 5);
        due.is("11: a child, half of these, cut", x.why(5, 0, 2, 1050), 0);
        BeltHall y = hall();
        y.rule(2, 0, 20, 0, 0);
        y.give(0, 0, 1, 0, PANEL);
        due.is("11: an entry of the first day", y.why(0, 0, 2, 19), 5);
        due.is("11: an entry of the first day", y.why(0, 0, 2, 20), 0);
        x.rule(2, 0, 101, 2000, 0);
        due.is("11: age ahead of days", x.why(0, 0, 2, 1100), 4);
    }

    private static void whyByParts() {
        BeltHall x = hall();
        x.rule(1, 0, 0, 0, 16 * (1 + 128));
        due.is("11: none passed", x.why(0, 0, 1, 500), 6);
        x.part(0, 0, 0);
        due.is("11: one is missing", x.why(0, 0, 1, 500), 6);
        x.part(0, 7, 501);
        due.is("11: passed later", x.why(0, 0, 1, 500), 6);
        x.part(0, 7, 500);
        due.is("11: passed on that day", x.why(0, 0, 1, 500), 0);
        x.rule(2, 0, 10, 0, 16 * 2);
        x.give(0, 0, 1, 500, PANEL);
        x.part(0, 1, 499);
        due.is("11: passed ahead of the entry", x.why(0, 0, 2, 510), 6);
        due.is("11: days ahead of parts", x.why(0, 0, 2, 509), 5);
        x.part(0, 1, 500);
        due.is("11: passed on the entry's day", x.why(0, 0, 2, 510), 0);
        x.part(0, 1, -1);
        due.is("11: not passed any more", x.why(0, 0, 2, 510), 6);
    }

    private static void whyAsKnown() {
        BeltHall x = hall();
        x.rule(101, 0, 500, 0, 16);
        x.give(0, 0, 1, 100, PANEL);
        x.part(0, 0, 50);
        x.way(0, 1);
        x.strike(3, 0, 300);
        due.is("11: it stands as known by the day", x.why(0, 0, 2, 299), 0);
        due.is("11: it fell by the day", x.why(0, 0, 2, 300), 2);
        due.is("11: the first once more", x.why(0, 0, 1, 300), 0);
        due.is("11: days since one that stands", x.why(0, 1, 1, 299), 5);
        due.is("11: one that fell counts for no days and no parts", x.why(0, 1, 1, 300), 0);
    }

    private static void panel() {
        BeltHall x = hall();
        due.is("12: it may", x.panel(0, 0, 1, 100, PANEL), 0);
        int[] unlike = {0, 2, 6, 30};
        for (int bits : unlike) {
            due.is("12: not three", x.panel(0, 0, 1, 100, bits), 1);
        }
        due.is("12: a pupil", x.panel(0, 0, 1, 100, 7), 2);
        due.is("12: a child", x.panel(0, 0, 1, 100, 38), 2);
        due.is("12: itself", x.panel(1, 0, 1, 100, PANEL), 3);
        x.person(0, 0, 2);
        due.is("12: of its hall", x.panel(6, 0, 1, 100, PANEL), 3);
        due.is("12: of its hall, but not on the panel", x.panel(6, 0, 1, 100, 26), 0);
        due.is("12: no examiner ahead of the hall", x.panel(6, 0, 1, 100, 38), 2);
        x.licence(3, 100);
        due.is("12: licence on its last day", x.panel(0, 0, 1, 100, PANEL), 0);
        due.is("12: licence ended", x.panel(0, 0, 1, 101, PANEL), 4);
        due.is("12: hall ahead of licence", x.panel(6, 0, 1, 101, PANEL), 3);
        x.licence(0, 0);
        due.is("12: why the person may not is another thing", x.panel(0, 0, 9, 100, PANEL), 0);
        int[][] beyond = {{-1, 0, 1, 0, 14}, {7, 0, 1, 0, 14}, {0, -1, 1, 0, 14}, {0, 3, 1, 0, 14}, {0, 0, 0, 0, 14},
            {0, 0, 11, 0, 14}, {0, 0, 1, -1, 14}, {0, 0, 1, 30001, 14}, {0, 0, 1, 0, 128}, {0, 0, 1, 0, 14 + 128},
            {0, 0, 1, 0, -1}, {0, 0, 1, 0, MIN}, {0, 0, 1, 0, MAX}, {0, 0, 1, 0, MIN + 14}};
        for (int[] b : beyond) {
            due.is("12: beyond", x.panel(b[0], b[1], b[2], b[3], b[4]), Due.BEYOND);
        }
        BeltHall y = new BeltHall();
        y.person(0, 0, 0);
        y.rule(1, 5, 0, 0, 0);
        due.is("12: no rule in force", y.panel(0, 0, 1, 4, 0), Due.NONE);
        due.is("12: beyond ahead of none", y.panel(0, 0, 1, 4, 2), Due.BEYOND);
        due.is("12: a rule in force", y.panel(0, 0, 1, 5, 0), 1);
    }

    private static void panelByStrikes() {
        BeltHall x = hall();
        x.strike(2, 50, 100);
        due.is("12: not yet told", x.panel(0, 0, 1, 99, PANEL), 0);
        due.is("12: told", x.panel(0, 0, 1, 100, PANEL), 5);
        due.is("12: another panel", x.panel(0, 0, 1, 100, 26), 0);
        x.licence(3, 0);
        due.is("12: licence ahead of strikes", x.panel(0, 0, 1, 100, PANEL), 4);
        x.licence(3, 30000);
        x.unstrike();
        x.strike(2, 200, 100);
        due.is("12: struck from a later day on", x.panel(0, 0, 1, 199, PANEL), 0);
        due.is("12: struck from that day on", x.panel(0, 0, 1, 200, PANEL), 5);
    }

    private static void panelByGrades() {
        BeltHall x = hall();
        x.give(1, 0, 1, 10, 28);
        x.give(2, 0, 1, 10, 26);
        x.give(3, 1, 1, 10, 22);
        x.rule(2, 0, 0, 0, 1);
        due.is("12: one has less", x.panel(0, 0, 2, 10, PANEL), 6);
        x.worth(0, 1, 1, 1);
        due.is("12: another union's grade is worth it", x.panel(0, 0, 2, 10, PANEL), 0);
        due.is("12: they had less ahead of it", x.panel(0, 0, 2, 9, PANEL), 6);
        due.is("12: another grade's rule", x.panel(0, 0, 3, 9, PANEL), 0);
        x.way(1, 1);
        x.strike(4, 0, 500);
        due.is("12: what one has stands as known", x.panel(0, 0, 2, 499, PANEL), 0);
        due.is("12: what one has fell", x.panel(0, 0, 2, 500, PANEL), 6);
        x.strike(2, 10, 600);
        due.is("12: strikes ahead of grades", x.panel(0, 0, 2, 600, PANEL), 5);
        x.licence(3, 0);
        due.is("12: licence ahead of grades", x.panel(0, 0, 2, 500, PANEL), 4);
    }

    private static void give() {
        BeltHall x = hall();
        due.is("13: why isn't 0", x.give(0, 0, 2, 10, PANEL), Due.STATE);
        due.is("13: the panel may not", x.give(0, 0, 1, 10, 6), Due.STATE);
        due.is("13: none came", x.count(2), 0);
        due.is("13: the first", x.give(0, 0, 1, 10, PANEL), 0);
        due.is("13: ahead of the only one", x.give(5, 0, 1, 9, PANEL), Due.BEYOND);
        due.is("13: the next of the same day", x.give(0, 0, 2, 10, PANEL), 1);
        due.is("13: ahead of the latest", x.give(5, 0, 1, 9, PANEL), Due.BEYOND);
        due.is("13: a child", x.give(5, 0, 1, 11, PANEL), 2);
        due.is("13: three", x.count(2), 3);
        int[][] beyond = {{-1, 0, 3, 20, 14}, {6, 0, 3, 20, 14}, {0, -1, 3, 20, 14}, {0, 3, 3, 20, 14}, {0, 0, 0, 20, 14},
            {0, 0, 11, 20, 14}, {0, 0, 3, -1, 14}, {0, 0, 3, 30001, 14}, {0, 0, 3, 20, 64}, {0, 0, 3, 20, -1}};
        for (int[] b : beyond) {
            due.is("13: beyond", x.give(b[0], b[1], b[2], b[3], b[4]), Due.BEYOND);
        }
        x.way(0, 1);
        x.strike(1, 0, 0);
        due.is("13: one that fell still keeps the days from falling", x.give(0, 0, 1, 10, 28), Due.BEYOND);
        due.is("13: the first once more", x.give(0, 0, 1, 11, 28), 3);
        BeltHall y = new BeltHall();
        y.person(0, 0, 0);
        due.is("13: no rule in force", y.give(0, 0, 1, 0, 0), Due.STATE);
        due.is("13: none wasn't told", y.found(2), 0);
    }

    private static void entriesAreFull() {
        BeltHall x = hall();
        for (int p = 6; p < 20; p++) {
            x.person(0, 0, 0);
        }
        int came = 0;
        for (int g = 1; g <= 4; g++) {
            for (int p = 5; p < 20; p++) {
                due.is("13: one more", x.give(p, 0, g, g, PANEL), came++);
            }
        }
        due.is("13: sixty", x.count(2), 60);
        due.is("13: full", x.give(0, 0, 1, 4, PANEL), Due.FULL);
        due.is("13: state ahead of full", x.give(0, 0, 2, 4, PANEL), Due.STATE);
        due.is("13: beyond ahead of full", x.give(0, 0, 1, 3, PANEL), Due.BEYOND);
        due.is("14: the last", x.entry(59, 0), 19);
        due.is("28: sixty stand, none were told", x.check(0), 1);
        due.is("15: the last stands", x.stands(59, 30000), 1);
        x.way(0, 1);
        due.is("16: all fall", x.strike(1, 0, 0), 60);
        due.is("28: none stand, none were told", x.check(0), 0);
    }

    private static void entry() {
        BeltHall x = hall();
        x.give(0, 0, 1, 10, PANEL);
        x.give(5, 2, 1, 30000, 28);
        int[][] want = {{0, 0, 1, 10, 14}, {5, 2, 1, 30000, 28}};
        for (int e = 0; e < 2; e++) {
            for (int what = 0; what < 5; what++) {
                due.is("14: entry(" + e + ", " + what + ")", x.entry(e, what), want[e][what]);
            }
        }
        int[][] beyond = {{2, 0}, {-1, 0}, {0, 5}, {0, -1}, {MAX, 0}, {MIN, 0}, {0, MAX}, {0, MIN}};
        for (int[] b : beyond) {
            due.is("14: beyond", x.entry(b[0], b[1]), Due.BEYOND);
        }
        due.is("14: beyond told", x.found(1), beyond.length);
    }

    private static void standsByWay() {
        BeltHall x = hall();
        x.give(0, 0, 1, 100, PANEL);
        x.give(0, 1, 1, 100, PANEL);
        x.give(5, 1, 1, 101, 28);
        x.strike(1, 100, 200);
        due.is("15: what was given stands", x.stands(0, 200), 1);
        x.way(1, 1);
        due.is("15: of a union of the other way", x.stands(0, 200), 1);
        due.is("15: it falls", x.stands(1, 200), 0);
        due.is("15: not yet known", x.stands(1, 199), 1);
        due.is("15: of another panel", x.stands(2, 200), 1);
        x.way(1, 0);
        due.is("15: it stands again", x.stands(1, 200), 1);
        x.way(1, 1);
        x.unstrike();
        x.strike(1, 101, 200);
        due.is("15: struck from a later day on", x.stands(1, 200), 1);
        int[][] beyond = {{3, 0}, {-1, 0}, {0, -1}, {0, 30001}, {MAX, 0}, {0, MIN}};
        for (int[] b : beyond) {
            due.is("15: beyond", x.stands(b[0], b[1]), Due.BEYOND);
        }
    }

    private static void standsByWhatLeansOnIt() {
        BeltHall x = hall();
        x.worth(1, 0, 1, 2);
        x.give(0, 0, 1, 10, PANEL);
        x.give(0, 1, 3, 20, 28);
        x.give(0, 1, 4, 30, 28);
        x.give(5, 1, 1, 30, 28);
        due.is("15: on another union's", x.stands(1, 30000), 1);
        x.worth(1, 0, 1, 3);
        due.is("15: worth more", x.stands(1, 30000), 1);
        x.worth(1, 0, 1, 1);
        due.is("15: worth less", x.stands(1, 30000), 0);
        due.is("15: what leans on it", x.stands(2, 30000), 0);
        due.is("15: a first leans on nothing", x.stands(0, 30000), 1);
        due.is("15: another's", x.stands(3, 30000), 1);
        x.worth(1, 0, 1, 2);
        x.way(0, 1);
        due.is("16: it falls with all that leans on it", x.strike(1, 0, 40), 3);
        due.is("15: not known", x.stands(2, 39), 1);
        due.is("15: known", x.stands(2, 40), 0);
        due.is("15: a panel that wasn't struck", x.stands(3, 40), 1);
    }

    private static void strike() {
        BeltHall x = hall();
        x.way(0, 1);
        x.give(0, 0, 1, 10, PANEL);
        x.give(0, 0, 2, 20, PANEL);
        x.give(0, 0, 3, 30, 28);
        due.is("16: none", x.strike(1, 21, 0), 0);
        due.is("16: with what leans on it", x.strike(1, 20, 30000), 2);
        due.is("16: they fell ahead", x.strike(2, 20, 0), 0);
        due.is("16: the rest", x.strike(3, 0, 0), 1);
        due.is("16: four", x.count(3), 4);
        due.is("16: a pupil", x.strike(0, 0, 0), Due.KIND);
        due.is("16: a child", x.strike(5, 0, 0), Due.KIND);
        int[][] beyond = {{6, 0, 0}, {-1, 0, 0}, {1, -1, 0}, {1, 30001, 0}, {1, 0, -1}, {1, 0, 30001}, {0, 0, 30001}};
        for (int[] b : beyond) {
            due.is("16: beyond", x.strike(b[0], b[1], b[2]), Due.BEYOND);
        }
        due.is("16: four still", x.count(3), 4);
    }

    private static void strikesAreFull() {
        BeltHall x = hall();
        for (int i = 0; i < 20; i++) {
            due.is("16: strike", x.strike(1, 0, 0), 0);
        }
        due.is("16: full", x.strike(1, 0, 0), Due.FULL);
        due.is("16: kind ahead of full", x.strike(0, 0, 0), Due.KIND);
        due.is("17: one back", x.unstrike(), 19);
        due.is("16: room again", x.strike(1, 0, 0), 0);
    }

    private static void unstrike() {
        BeltHall x = hall();
        due.is("17: none", x.unstrike(), Due.NONE);
        x.way(0, 1);
        x.give(0, 0, 1, 10, PANEL);
        x.strike(1, 0, 500);
        x.strike(2, 0, 100);
        due.is("17: known early", x.stands(0, 100), 0);
        due.is("17: the one that came last", x.unstrike(), 1);
        due.is("17: not known early any more", x.stands(0, 499), 1);
        due.is("17: the other is left", x.stands(0, 500), 0);
        due.is("17: that one, too", x.unstrike(), 0);
        due.is("17: it stands", x.stands(0, 30000), 1);
        due.is("17: none", x.unstrike(), Due.NONE);
        due.is("17: none told", x.found(2), 2);
    }
}
