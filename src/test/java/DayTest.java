/** Promises 18 to 21. */
public final class DayTest {
    private static final Due due = new Due("DayTest");

    public static void main(String[] args) {
        waiting();
        going();
        bestOfOne();
        bestByLoad();
        mostAheadOfLeast();
        noneIsLast();
        bestAsksWhy();
        bestAsksNextGrade();
        bestAsKnown();
        given();
        due.end();
    }

    /** Examiners 0 .. n - 1 of halls 0 .. n - 1 (6 at most), then pupils of hall 7. */
    private static BeltHall hall(int examiners, int pupils) {
        BeltHall x = new BeltHall();
        for (int i = 0; i < examiners; i++) {
            x.person(1, 0, i);
        }
        for (int i = 0; i < pupils; i++) {
            x.person(0, 0, 7);
        }
        x.rule(1, 0, 0, 0, 0);
        return x;
    }

    private static void panels(String what, BeltHall x, int... want) {
        for (int i = 0; i < want.length; i++) {
            due.is(what + ", given(" + i + ")", x.given(i), want[i]);
        }
    }

    private static void waiting() {
        BeltHall x = hall(1, 5);
        due.is("18: no such person", x.wait(6), Due.BEYOND);
        due.is("18: no such person", x.wait(-1), Due.BEYOND);
        due.is("18: no such person", x.wait(Integer.MIN_VALUE), Due.BEYOND);
        for (int i = 0; i < 4; i++) {
            due.is("18: waits", x.wait(4 - i), i + 1);
            due.is("18: it waits", x.wait(4 - i), Due.STATE);
        }
        due.is("18: full", x.wait(5), Due.FULL);
        due.is("18: state ahead of full", x.wait(1), Due.STATE);
        due.is("18: beyond ahead of full", x.wait(6), Due.BEYOND);
        due.is("18: four", x.count(5), 4);
    }

    private static void going() {
        BeltHall x = hall(0, 3);
        due.is("19: none did", x.go(), 0);
        x.wait(0);
        x.wait(2);
        due.is("19: two did", x.go(), 2);
        due.is("19: none do", x.count(5), 0);
        due.is("19: none did", x.go(), 0);
        due.is("19: it may wait again", x.wait(2), 1);
    }

    private static void bestOfOne() {
        BeltHall x = hall(4, 1);
        due.is("20: none waits", x.best(0, 0, 1), 0);
        x.wait(4);
        due.is("20: one", x.best(0, 0, 1), 1);
        panels("20: the least", x, 7);
        x.licence(0, 9);
        due.is("20: one", x.best(0, 10, 4), 1);
        panels("20: the least that may", x, 14);
        x.strike(1, 0, 10);
        due.is("20: too few examiners", x.best(0, 10, 4), 0);
        panels("20: none", x, 0);
        due.is("20: no rule", x.best(1, 10, 4), 0);
        int[][] beyond = {{-1, 0, 1}, {3, 0, 1}, {0, -1, 1}, {0, 30001, 1}, {0, 0, 0}, {0, 0, 5}, {0, 0, -1},
            {Integer.MAX_VALUE, 0, 1}, {0, Integer.MIN_VALUE, 1}, {0, 0, Integer.MAX_VALUE}};
        for (int[] b : beyond) {
            due.is("20: beyond", x.best(b[0], b[1], b[2]), Due.BEYOND);
        }
    }

    private static void bestByLoad() {
        BeltHall x = hall(3, 4);
        for (int i = 3; i < 7; i++) {
            x.wait(i);
        }
        int[][] want = {{7, 0, 0, 0}, {7, 7, 0, 0}, {7, 7, 7, 0}, {7, 7, 7, 7}};
        for (int load = 1; load <= 4; load++) {
            due.is("20: load " + load, x.best(0, 0, load), load);
            panels("20: load " + load, x, want[load - 1]);
        }
        BeltHall y = hall(6, 4);
        for (int i = 6; i < 10; i++) {
            y.wait(i);
        }
        for (int i = 10; i < 20; i++) {
            y.person(0, 0, 7);
        }
        due.is("20: six examiners", y.best(0, 0, 1), 2);
        panels("20: six examiners", y, 7, 56, 0, 0);
        due.is("20: six examiners twice", y.best(0, 0, 2), 4);
        panels("20: six examiners twice", y, 7, 7, 56, 56);
        y.licence(5, 0);
        due.is("20: five examiners twice", y.best(0, 1, 2), 3);
        panels("20: five examiners twice", y, 7, 11, 28, 0);
        due.is("20: six examiners thrice", y.best(0, 0, 3), 4);
        panels("20: six examiners thrice", y, 7, 7, 7, 56);
    }

    /** The first takes a greater panel where the least one would leave the second without. */
    private static void mostAheadOfLeast() {
        BeltHall x = new BeltHall();
        for (int i = 0; i < 6; i++) {
            x.person(1, 0, i / 3);
        }
        x.person(0, 0, 2);
        x.person(0, 0, 1);
        x.rule(1, 0, 0, 0, 0);
        x.wait(6);
        x.wait(7);
        due.is("20: both", x.best(0, 0, 1), 2);
        panels("20: the second has but the first three", x, 56, 7);
        due.is("20: both", x.best(0, 0, 2), 2);
        panels("20: twice", x, 7, 7);
    }

    /** Where not all have one, the first keep theirs. */
    private static void noneIsLast() {
        BeltHall x = hall(5, 3);
        x.wait(7);
        x.wait(5);
        x.wait(6);
        due.is("20: one of three", x.best(0, 0, 1), 1);
        panels("20: the first as they came", x, 7, 0, 0);
        x.licence(7, 0);
        due.is("20: one of three", x.best(0, 1, 1), 1);
        panels("20: the first that may be graded", x, 0, 7, 0);
        due.is("20: two of three", x.best(0, 1, 2), 2);
        panels("20: both that may", x, 0, 7, 7);
    }

    private static void bestAsksWhy() {
        BeltHall x = hall(4, 3);
        x.rule(1, 100, 0, 50, 16);
        x.part(4, 0, 60);
        x.part(5, 0, 101);
        x.wait(4);
        x.wait(5);
        x.wait(6);
        due.is("20: the old rule", x.best(0, 99, 4), 3);
        due.is("20: parts", x.best(0, 100, 4), 1);
        panels("20: parts", x, 7, 0, 0);
        due.is("20: parts", x.best(0, 101, 4), 2);
        x.rule(1, 100, 0, 0, 1);
        due.is("20: the examiners have too little", x.best(0, 100, 4), 0);
        x.go();
        x.wait(0);
        due.is("20: the panel's grade is asked of an examiner, too", x.best(0, 99, 1), 1);
        panels("20: an examiner isn't on its own panel", x, 14);
    }

    private static void bestAsksNextGrade() {
        BeltHall x = hall(4, 2);
        for (int g = 2; g <= 10; g++) {
            x.rule(g, 0, 0, 0, 0);
        }
        x.wait(4);
        x.wait(5);
        x.worth(0, 1, 1, 9);
        x.rule(101, 0, 0, 0, 0);
        x.give(4, 1, 1, 5, 7);
        x.rule(10, 0, 3, 0, 0);
        due.is("20: too early for its tenth", x.best(0, 7, 4), 1);
        panels("20: too early for its tenth", x, 0, 7);
        due.is("20: both", x.best(0, 8, 4), 2);
        x.worth(0, 1, 1, 10);
        due.is("20: none is above the tenth", x.best(0, 8, 4), 1);
        panels("20: none is above the tenth", x, 0, 7);
        due.is("20: ahead of the entry", x.best(0, 4, 4), 2);
    }

    private static void bestAsKnown() {
        BeltHall x = hall(4, 1);
        x.rule(2, 0, 0, 0, 16);
        x.give(4, 0, 1, 10, 14);
        x.way(0, 1);
        x.strike(3, 0, 20);
        x.wait(4);
        due.is("20: it stands, and a part is wanted", x.best(0, 19, 4), 0);
        due.is("20: it fell", x.best(0, 20, 4), 1);
        panels("20: it fell", x, 7);
    }

    private static void given() {
        BeltHall x = hall(4, 5);
        due.is("21: none waits", x.given(0), Due.BEYOND);
        x.wait(4);
        due.is("21: none were found", x.given(0), Due.STATE);
        due.is("21: beyond ahead of state", x.given(1), Due.BEYOND);
        due.is("21: beyond ahead of state", x.given(-1), Due.BEYOND);
        x.best(0, 0, 1);
        panels("21: found", x, 7);
        due.is("21: no such one", x.given(1), Due.BEYOND);
        x.best(0, 0, 5);
        x.wait(4);
        x.wait(99);
        panels("21: findings change nothing", x, 7);
        x.licence(0, 0);
        x.strike(1, 0, 0);
        x.give(4, 0, 1, 0, 7);
        panels("21: found latest, whatever came since", x, 7);
        x.wait(5);
        due.is("21: one came", x.given(0), Due.STATE);
        x.best(0, 1, 1);
        panels("21: found anew", x, 0, 0);
        x.go();
        due.is("21: they went", x.given(0), Due.BEYOND);
        x.wait(4);
        due.is("21: one came again", x.given(0), Due.STATE);
    }
}
