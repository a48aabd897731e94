/** Promises 22 to 26. */
public final class MarksTest {
    private static final Due due = new Due("MarksTest");

    public static void main(String[] args) {
        exams();
        marks();
        middles();
        apart();
        hardness();
        twentyExams();
        due.end();
    }

    /** Six examiners 0 .. 5, pupil 6 and child 7. */
    private static BeltHall hall() {
        BeltHall x = new BeltHall();
        for (int i = 0; i < 6; i++) {
            x.person(1, 0, 0);
        }
        x.person(0, 0, 0);
        x.person(2, 0, 0);
        return x;
    }

    private static void exams() {
        BeltHall x = new BeltHall();
        for (int i = 0; i < 20; i++) {
            due.is("22: exam", x.exam(), i);
        }
        due.is("22: one more", x.exam(), Due.FULL);
        due.is("22: twenty", x.count(4), 20);
        due.is("22: without marks", x.middle(19), Due.STATE);
    }

    private static void marks() {
        BeltHall x = hall();
        due.is("23: no exam", x.mark(0, 0, 0), Due.BEYOND);
        x.exam();
        x.exam();
        due.is("23: the least", x.mark(0, 5, 0), 1);
        due.is("23: the greatest", x.mark(0, 0, 100), 2);
        due.is("23: in place of its own", x.mark(0, 5, 50), 2);
        int[][] beyond = {{2, 0, 0}, {-1, 0, 0}, {0, 8, 0}, {0, -1, 0}, {0, 0, -1}, {0, 0, 101}, {0, 6, 101}};
        for (int[] b : beyond) {
            due.is("23: beyond", x.mark(b[0], b[1], b[2]), Due.BEYOND);
        }
        due.is("23: a pupil", x.mark(0, 6, 1), Due.KIND);
        due.is("23: a child", x.mark(0, 7, 1), Due.KIND);
        due.is("23: third", x.mark(0, 1, 1), 3);
        due.is("23: fourth", x.mark(0, 2, 1), 4);
        due.is("23: not five", x.middle(0), Due.STATE);
        due.is("23: fifth", x.mark(0, 3, 1), 5);
        due.is("23: five by others", x.mark(0, 4, 1), Due.FULL);
        due.is("23: kind ahead of full", x.mark(0, 6, 1), Due.KIND);
        due.is("23: its own in five", x.mark(0, 3, 99), 5);
        due.is("23: its own in five", x.mark(0, 5, 98), 5);
        due.is("23: what was put", x.middle(0), 98);
        due.is("23: another exam", x.mark(1, 4, 1), 1);
    }

    private static void middles() {
        int[][] fives = {{0, 0, 0, 0, 0}, {100, 100, 100, 100, 100}, {1, 2, 3, 4, 5}, {5, 4, 3, 2, 1}, {3, 1, 5, 2, 4},
            {0, 0, 0, 100, 100}, {0, 0, 100, 100, 100}, {7, 7, 9, 9, 8}, {9, 1, 1, 9, 1}, {100, 0, 50, 50, 100}};
        int[] want = {0, 100, 3, 3, 3, 0, 100, 8, 1, 50};
        BeltHall x = hall();
        for (int i = 0; i < fives.length; i++) {
            x.exam();
            for (int p = 0; p < 5; p++) {
                x.mark(i, p, fives[i][p]);
            }
            due.is("24: middle(" + i + ")", x.middle(i), want[i]);
        }
        due.is("24: beyond", x.middle(fives.length), Due.BEYOND);
        due.is("24: beyond", x.middle(-1), Due.BEYOND);
        due.is("24: beyond", x.middle(Integer.MAX_VALUE), Due.BEYOND);
    }

    private static void apart() {
        BeltHall x = hall();
        x.exam();
        x.exam();
        int[] five = {0, 100, 50, 49, 52};
        for (int p = 0; p < 5; p++) {
            due.is("25: not five", x.apart(0, 0), Due.STATE);
            x.mark(0, p, five[p]);
        }
        due.is("25: all but the middle", x.apart(0, 0), 4);
        due.is("25: more than one", x.apart(0, 1), 3);
        due.is("25: more than two", x.apart(0, 2), 2);
        due.is("25: more than 49", x.apart(0, 49), 2);
        due.is("25: more than 50", x.apart(0, 50), 0);
        due.is("25: the greatest bound", x.apart(0, 100), 0);
        due.is("25: beyond", x.apart(0, -1), Due.BEYOND);
        due.is("25: beyond", x.apart(0, 101), Due.BEYOND);
        due.is("25: beyond", x.apart(2, 0), Due.BEYOND);
        due.is("25: beyond", x.apart(-1, 0), Due.BEYOND);
        due.is("25: beyond ahead of state", x.apart(1, 101), Due.BEYOND);
        due.is("25: not five", x.apart(1, 100), Due.STATE);
    }

    private static void hardness() {
        BeltHall x = hall();
        due.is("26: without", x.hard(0), 0);
        x.exam();
        x.exam();
        x.exam();
        for (int p = 0; p < 5; p++) {
            x.mark(0, p, 10 * p);
            x.mark(1, p + 1, 100 - p);
        }
        x.mark(2, 0, 77);
        int[] want = {-20, -10 + 2, 0 + 1, 10, 20 - 1, -2};
        for (int p = 0; p < 6; p++) {
            due.is("26: hard(" + p + ")", x.hard(p), want[p]);
        }
        x.mark(0, 0, 100);
        due.is("26: a mark in place of its own moves the middle", x.hard(0), 70);
        due.is("26: of the others, too", x.hard(1), -20 + 2);
        due.is("26: a pupil", x.hard(6), Due.KIND);
        due.is("26: a child", x.hard(7), Due.KIND);
        due.is("26: beyond", x.hard(8), Due.BEYOND);
        due.is("26: beyond", x.hard(-1), Due.BEYOND);
    }

    /** All exams have five marks: each by itself, whatever the next one holds. */
    private static void twentyExams() {
        BeltHall x = hall();
        for (int i = 0; i < 20; i++) {
            x.exam();
            for (int p = 0; p < 5; p++) {
                due.is("23: mark", x.mark(i, p, 96 - 4 * i + p), p + 1);
            }
        }
        for (int i = 0; i < 20; i++) {
            due.is("24: middle(" + i + ")", x.middle(i), 98 - 4 * i);
            due.is("25: apart(" + i + ")", x.apart(i, 1), 2);
        }
        due.is("23: full", x.mark(19, 5, 0), Due.FULL);
        due.is("23: its own", x.mark(19, 4, 0), 5);
        due.is("24: the last", x.middle(19), 21);
        for (int p = 0; p < 4; p++) {
            due.is("26: over twenty", x.hard(p), 19 * (p - 2) + p - 1);
        }
        due.is("26: over twenty", x.hard(4), 19 * 2 - 21);
        due.is("26: without", x.hard(5), 0);
    }
}
