/** The last that has room and the first that has none, of all that an object holds; and what a full one answers. */
public final class FullTest {
    private static final Due due = new Due("FullTest");

    public static void main(String[] args) {
        twentyPersons();
        sixExaminers();
        sixthExaminerIsTheTwentieth();
        fortyRules();
        sixtyEntries();
        entriesThatFellTakeRoom();
        twentyStrikes();
        fourCandidates();
        twentyExams();
        fiveMarks();
        twentyNumbers();
        allAtOnce();
        firstAndLastOfAll();
        findingsOfAFullOne();
        roomAgain();
        due.end();
    }

    private static void twentyPersons() {
        for (int kind = 0; kind < 3; kind++) {
            BeltHall x = new BeltHall();
            for (int p = 0; p < 20; p++) {
                due.is("2: person " + p, x.person(p % 2 * 2, p, p % 8), p);
            }
            due.is("2: a twenty-first of kind " + kind, x.person(kind, 0, 0), Due.FULL);
            due.is("29: twenty", x.count(0), 20);
            due.is("3: the twentieth", x.as(19, 2), 3);
            due.is("3: there is no twenty-first", x.as(20, 0), Due.BEYOND);
            due.is("30: full once", x.found(4), 1);
        }
    }

    private static void sixExaminers() {
        BeltHall x = new BeltHall();
        for (int p = 0; p < 6; p++) {
            due.is("2: examiner " + p, x.person(1, 0, p), p);
        }
        due.is("2: a seventh examiner", x.person(1, 0, 6), Due.FULL);
        due.is("2: a pupil still comes", x.person(0, 0, 6), 6);
        due.is("2: a seventh examiner still doesn't", x.person(1, 0, 6), Due.FULL);
        due.is("2: a child still comes", x.person(2, 0, 6), 7);
        due.is("29: eight", x.count(0), 8);
    }

    private static void sixthExaminerIsTheTwentieth() {
        BeltHall x = new BeltHall();
        for (int p = 0; p < 19; p++) {
            due.is("2: person " + p, x.person(p < 5 ? 1 : 0, 0, 0), p);
        }
        due.is("2: the sixth examiner", x.person(1, 0, 7), 19);
        due.is("3: it is one", x.as(19, 1), 7);
        due.is("2: no more", x.person(0, 0, 0), Due.FULL);
    }

    private static void fortyRules() {
        BeltHall x = new BeltHall();
        for (int r = 0; r < 39; r++) {
            x.rule(101, r, 0, 0, 0);
        }
        due.is("8: the fortieth", x.rule(210, 5, 0, 0, 0), 40);
        due.is("8: a forty-first", x.rule(210, 5, 0, 0, 0), Due.FULL);
        due.is("8: a forty-first of a union and grade without one", x.rule(1, 0, 0, 0, 0), Due.FULL);
        due.is("9: the fortieth is in force", x.force(2, 10, 5), 39);
        due.is("9: the forty-first isn't", x.force(0, 1, 30000), Due.NONE);
        due.is("29: forty", x.count(1), 40);
    }

    /** Examiners 0 .. 3 and sixteen pupils, rules for union 0 without bounds. */
    private static BeltHall hallOfPupils() {
        BeltHall x = new BeltHall();
        for (int p = 0; p < 20; p++) {
            x.person(p < 4 ? 1 : 0, 0, p < 4 ? p : 7);
        }
        for (int g = 1; g <= 10; g++) {
            x.rule(g, 0, 0, 0, 0);
        }
        return x;
    }

    private static void sixtyEntries() {
        BeltHall x = hallOfPupils();
        int came = 0;
        for (int p = 4; p < 10; p++) {
            for (int g = 1; g <= 10; g++) {
                due.is("13: entry", x.give(p, 0, g, 30000, 7), came++);
            }
        }
        due.is("13: a sixty-first that may", x.give(10, 0, 1, 30000, 7), Due.FULL);
        due.is("10: it hasn't come", x.has(10, 0, 30000, 30000), 0);
        due.is("29: sixty", x.count(2), 60);
        due.is("14: the sixtieth", x.entry(59, 2), 10);
        due.is("14: there is no sixty-first", x.entry(60, 0), Due.BEYOND);
        due.is("15: the sixtieth", x.stands(59, 0), 1);
        due.is("15: there is no sixty-first", x.stands(60, 0), Due.BEYOND);
    }

    private static void entriesThatFellTakeRoom() {
        BeltHall x = hallOfPupils();
        x.way(0, 1);
        for (int i = 0; i < 60; i++) {
            x.give(4 + i / 10, 0, 1 + i % 10, 0, 7);
        }
        due.is("16: sixty fall", x.strike(0, 0, 0), 60);
        due.is("13: there is no room for another", x.give(4, 0, 1, 0, 14), Due.FULL);
        due.is("29: sixty", x.count(2), 60);
        due.is("28: none stands", x.check(0), 0);
    }

    private static void twentyStrikes() {
        BeltHall x = hallOfPupils();
        x.way(0, 1);
        x.give(4, 0, 1, 0, 14);
        for (int i = 0; i < 19; i++) {
            due.is("16: strike", x.strike(0, 0, 0), 0);
        }
        due.is("16: the twentieth", x.strike(3, 0, 0), 1);
        due.is("16: a twenty-first", x.strike(1, 0, 0), Due.FULL);
        due.is("29: twenty", x.count(3), 20);
        due.is("17: the twentieth is taken back", x.unstrike(), 19);
        due.is("15: its entry stands", x.stands(0, 0), 1);
        due.is("16: there is room for one", x.strike(1, 0, 0), 1);
        due.is("16: and for no more", x.strike(1, 0, 0), Due.FULL);
        for (int left = 19; left >= 0; left--) {
            due.is("17: left", x.unstrike(), left);
        }
        due.is("17: none", x.unstrike(), Due.NONE);
        due.is("29: none", x.count(3), 0);
    }

    private static void fourCandidates() {
        BeltHall x = hallOfPupils();
        int[] candidates = {19, 0, 4, 5};
        for (int i = 0; i < 4; i++) {
            due.is("18: candidate", x.wait(candidates[i]), i + 1);
        }
        due.is("18: a fifth", x.wait(6), Due.FULL);
        for (int p : candidates) {
            due.is("18: one that waits", x.wait(p), Due.STATE);
        }
        due.is("29: four", x.count(5), 4);
        due.is("20: four are graded", x.best(0, 0, 4), 4);
        due.is("18: a fifth", x.wait(6), Due.FULL);
        due.is("21: the fifth changed nothing", x.given(3), 7);
        due.is("19: four did", x.go(), 4);
        due.is("18: there is room", x.wait(6), 1);
    }

    private static void twentyExams() {
        BeltHall x = hallOfPupils();
        for (int i = 0; i < 20; i++) {
            due.is("22: exam", x.exam(), i);
        }
        due.is("22: a twenty-first", x.exam(), Due.FULL);
        due.is("23: the twentieth", x.mark(19, 0, 0), 1);
        due.is("23: there is no twenty-first", x.mark(20, 0, 0), Due.BEYOND);
        due.is("29: twenty", x.count(4), 20);
    }

    private static void fiveMarks() {
        BeltHall x = new BeltHall();
        for (int p = 0; p < 6; p++) {
            x.person(1, 0, 0);
        }
        x.exam();
        x.exam();
        for (int p = 5; p > 0; p--) {
            due.is("23: mark", x.mark(0, p, 10 * p), 6 - p);
        }
        due.is("23: there are five by others", x.mark(0, 0, 0), Due.FULL);
        due.is("24: the sixth changed nothing", x.middle(0), 30);
        for (int p = 1; p <= 5; p++) {
            due.is("23: in place of its own", x.mark(0, p, 100), 5);
        }
        due.is("24: all five", x.middle(0), 100);
        due.is("25: all five", x.apart(0, 0), 0);
        due.is("23: still five by others", x.mark(0, 0, 0), Due.FULL);
        due.is("23: another exam has room", x.mark(1, 0, 0), 1);
    }

    private static void twentyNumbers() {
        BeltHall x = new BeltHall();
        for (int round = 0; round < 2; round++) {
            for (int i = 1; i <= 20; i++) {
                due.is("27: number", x.tell(i), i);
            }
            due.is("27: a twenty-first", x.tell(0), Due.FULL);
            due.is("29: twenty", x.count(6), 20);
            due.is("28: they go, beyond or not", x.check(round == 0 ? -1 : 0), round == 0 ? Due.BEYOND : 99);
            due.is("29: none", x.count(6), 0);
        }
        due.is("27: there is room", x.tell(0), 1);
    }

    private static void allAtOnce() {
        BeltHall x = Halls.full();
        int[] counts = {20, 40, 60, 20, 20, 4, 20};
        for (int what = 0; what < counts.length; what++) {
            due.is("29: count(" + what + ")", x.count(what), counts[what]);
        }
        for (int k = 1; k <= 5; k++) {
            due.is("30: nothing was refused, found(" + k + ")", x.found(k), 0);
        }
        due.is("2: a pupil", x.person(0, 0, 0), Due.FULL);
        due.is("2: an examiner", x.person(1, 0, 0), Due.FULL);
        due.is("8: a rule", x.rule(1, 0, 0, 0, 0), Due.FULL);
        due.is("13: an entry", x.give(10, 1, 1, 50, 7), Due.FULL);
        due.is("16: a strike", x.strike(1, 0, 0), Due.FULL);
        due.is("18: a candidate", x.wait(9), Due.FULL);
        due.is("22: an exam", x.exam(), Due.FULL);
        due.is("23: a mark", x.mark(0, 0, 0), Due.FULL);
        due.is("27: a number", x.tell(0), Due.FULL);
        due.is("30: nine times", x.found(4), 9);
        for (int what = 0; what < counts.length; what++) {
            due.is("29: count(" + what + ") as ahead", x.count(what), counts[what]);
        }
    }

    private static void firstAndLastOfAll() {
        BeltHall x = Halls.full();
        due.is("3: the first person", x.as(0, 1), 0);
        due.is("3: the last person", x.as(19, 2), 7);
        due.is("5: the last part of the last person", x.part(19, 7, 30000), -1);
        due.is("5: it is passed", x.part(19, 7, 0), 30000);
        due.is("9: the first rule", x.force(0, 1, 19999), 0);
        due.is("9: the last rule", x.force(0, 10, 30000), 39);
        int[][] entries = {{6, 0, 1, 10, 7}, {9, 1, 1, 50, 7}};
        for (int what = 0; what < 5; what++) {
            due.is("14: the first entry, " + what, x.entry(0, what), entries[0][what]);
            due.is("14: the last entry, " + what, x.entry(59, what), entries[1][what]);
        }
        due.is("15: the first entry", x.stands(0, 30000), 1);
        due.is("15: an entry of the day that was struck", x.stands(42, 100), 0);
        due.is("15: not by another panel", x.stands(43, 100), 1);
        due.is("15: the last entry", x.stands(59, 30000), 1);
        // Union 1 on day 60: 6, 7 and 8 have its first grade, child 19 has none; all of them may.
        int[] panels = {7, 7, 7, 56};
        for (int i = 0; i < 4; i++) {
            due.is("21: candidate " + i, x.given(i), panels[i]);
        }
        // Exam 0: examiners 1 .. 5 gave 17, 34, 51, 68, 85. Exam 19: 0 and 2 .. 5 gave 95, 28, 45, 62, 79.
        due.is("24: the first exam", x.middle(0), 51);
        due.is("24: the last exam", x.middle(19), 62);
        due.is("25: the last exam", x.apart(19, 17), 2);
        due.is("28: the one behind the twentieth is missing", x.check(0), 21);
    }

    private static void findingsOfAFullOne() {
        BeltHall x = Halls.full();
        due.is("2: beyond ahead of full", x.person(1, 0, 8), Due.BEYOND);
        due.is("8: beyond ahead of full", x.rule(1, 0, 0, 0, 11), Due.BEYOND);
        due.is("13: beyond ahead of full", x.give(10, 1, 1, 49, 7), Due.BEYOND);
        due.is("13: state ahead of full, by the person", x.give(10, 1, 2, 50, 7), Due.STATE);
        due.is("13: state ahead of full, by the panel", x.give(10, 1, 1, 50, 3), Due.STATE);
        due.is("16: beyond ahead of full", x.strike(1, 30001, 0), Due.BEYOND);
        due.is("16: kind ahead of full", x.strike(6, 0, 0), Due.KIND);
        due.is("18: beyond ahead of full", x.wait(20), Due.BEYOND);
        due.is("18: state ahead of full", x.wait(8), Due.STATE);
        due.is("23: beyond ahead of full", x.mark(0, 0, 101), Due.BEYOND);
        due.is("23: kind ahead of full", x.mark(0, 6, 0), Due.KIND);
        int[] found = {6, 0, 3, 0, 2};
        for (int k = 1; k <= 5; k++) {
            due.is("30: found(" + k + ")", x.found(k), found[k - 1]);
        }
    }

    private static void roomAgain() {
        BeltHall x = Halls.full();
        due.is("17: a strike goes", x.unstrike(), 19);
        due.is("16: a strike comes", x.strike(1, 30000, 30000), 0);
        due.is("19: the candidates go", x.go(), 4);
        due.is("18: one comes", x.wait(6), 1);
        due.is("28: the numbers go", x.check(100), 21);
        due.is("27: one comes", x.tell(0), 1);
        due.is("23: a mark in place of its own", x.mark(19, 5, 0), 5);
    }
}
