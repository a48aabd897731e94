/** Halls that several tests build. */
final class Halls {
    private Halls() {
    }

    /**
     * Pupil 0, examiners 1 .. 6 of halls 1 .. 6, child 7, pupil 8 of hall 1. Some of everything: rules,
     * worths, ways, parts, licences, four entries of which one falls, two strikes, three candidates with
     * their panels, an exam of five marks, one of two and one of none, and three numbers that wait.
     */
    static BeltHall busy() {
        BeltHall x = new BeltHall();
        x.person(0, 0, 0);
        for (int i = 1; i <= 6; i++) {
            x.person(1, 100 * i, i);
        }
        x.person(2, 50, 7);
        x.person(0, 70, 1);
        for (int g = 1; g <= 5; g++) {
            x.rule(g, 0, 0, 0, 0);
            x.rule(100 + g, 10, 30, 900, 16 * 3 + 1);
        }
        x.worth(0, 1, 1, 1);
        x.worth(1, 0, 2, 1);
        x.way(0, 1);
        x.part(0, 0, 1040);
        x.part(0, 1, 1050);
        x.licence(8, 5000);
        x.licence(6, 2000);
        x.give(0, 0, 1, 1000, 14);
        x.give(7, 0, 1, 1000, 28);
        x.give(0, 0, 2, 1010, 28);
        x.give(8, 0, 1, 1020, 56);
        x.strike(5, 1015, 1500);
        x.strike(1, 9000, 9000);
        x.wait(0);
        x.wait(8);
        x.wait(7);
        x.best(0, 1100, 2);
        for (int i = 0; i < 3; i++) {
            x.exam();
        }
        for (int p = 1; p <= 5; p++) {
            x.mark(0, p, 100 - 13 * p);
        }
        x.mark(1, 2, 0);
        x.mark(1, 6, 100);
        x.tell(0);
        x.tell(1);
        x.tell(2);
        return x;
    }

    /**
     * All that there can be: examiners 0 .. 5 of halls 0 .. 5, pupils 6 .. 18 of hall 6 and child 19 of
     * hall 7; 40 rules, the last ten from day 20000 on; 60 entries, of which the last four are of union 1;
     * 20 strikes, of which the first takes entries of day 40; four candidates with their panels; 20 exams
     * of five marks; 20 numbers that wait.
     */
    static BeltHall full() {
        BeltHall x = new BeltHall();
        for (int p = 0; p < 20; p++) {
            x.person(p < 6 ? 1 : p < 19 ? 0 : 2, 0, Math.min(p, p < 19 ? 6 : 7));
        }
        for (int r = 0; r < 40; r++) {
            boolean isLate = r >= 30;
            x.rule(r / 10 % 3 * 100 + r % 10 + 1, isLate ? 20000 : 0, isLate ? 4000 : 0, 0, 0);
        }
        x.way(0, 1);
        for (int g = 1; g <= 4; g++) {
            for (int p = 6; p < 20; p++) {
                x.give(p, 0, g, 10 * g, p % 2 == 0 ? 7 : 56);
            }
        }
        for (int p = 6; p < 10; p++) {
            x.give(p, 1, 1, 50, 7);
        }
        x.strike(0, 40, 100);
        for (int i = 1; i < 20; i++) {
            x.strike(5, 25000 + i, 25000 + i);
        }
        int[] candidates = {6, 7, 19, 8};
        for (int p : candidates) {
            x.wait(p);
        }
        x.best(1, 60, 3);
        for (int i = 0; i < 20; i++) {
            x.exam();
            for (int p = 0; p < 6; p++) {
                if (p != i % 6) {
                    x.mark(i, p, (17 * p + 5 * i) % 101);
                }
            }
        }
        for (int i = 0; i < 20; i++) {
            x.tell(i);
        }
        return x;
    }
}
