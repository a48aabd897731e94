/** Promises 27 to 30. */
public final class ToldTest {
    private static final Due due = new Due("ToldTest");

    public static void main(String[] args) {
        tell();
        check();
        checkOfMany();
        count();
        found();
        due.end();
    }

    /** Three entries: 0 and 1 of pupil 0, 2 of pupil 4; those of the panel 14 fall from day 50 on. */
    private static BeltHall hall() {
        BeltHall x = new BeltHall();
        x.person(0, 0, 0);
        for (int i = 1; i <= 5; i++) {
            x.person(1, 0, i);
        }
        x.person(0, 0, 0);
        x.rule(1, 0, 0, 0, 0);
        x.rule(101, 0, 0, 0, 0);
        x.way(0, 1);
        x.give(0, 1, 1, 10, 14);
        x.give(0, 0, 1, 20, 14);
        x.give(6, 0, 1, 30, 56);
        x.strike(1, 0, 50);
        return x;
    }

    private static int told(BeltHall x, int known, int... numbers) {
        for (int v : numbers) {
            x.tell(v);
        }
        return x.check(known);
    }

    private static void tell() {
        BeltHall x = new BeltHall();
        for (int i = 1; i <= 20; i++) {
            due.is("27: tell", x.tell(i % 2 == 0 ? Integer.MIN_VALUE : Integer.MAX_VALUE), i);
        }
        due.is("27: full", x.tell(0), Due.FULL);
        due.is("27: twenty", x.count(6), 20);
        due.is("28: more were told", x.check(0), 99);
        due.is("28: none wait", x.count(6), 0);
        due.is("27: room again", x.tell(0), 1);
    }

    private static void check() {
        BeltHall x = hall();
        due.is("28: all", told(x, 49, 0, 1, 2), 0);
        due.is("28: one fell", told(x, 50, 0, 2), 0);
        due.is("28: none wait", x.count(6), 0);
        due.is("28: the first isn't", told(x, 49, 1, 1, 2), 1);
        due.is("28: the second isn't", told(x, 50, 0, 1, 2), 2);
        due.is("28: the third isn't", told(x, 49, 0, 1, 3, 4, 5), 3);
        due.is("28: the first is missing", told(x, 49), 1);
        due.is("28: the third is missing", told(x, 49, 0, 1), 3);
        due.is("28: one more", told(x, 49, 0, 1, 2, 3), 99);
        due.is("28: two more", told(x, 50, 0, 2, 2, 2), 99);
        due.is("28: not in order", told(x, 50, 2, 0), 1);
        due.is("28: beyond", told(x, 30001, 0, 2), Due.BEYOND);
        due.is("28: they are gone, too", x.count(6), 0);
        due.is("28: beyond", told(x, -1, 0, 2), Due.BEYOND);
        due.is("28: the last day", told(x, 30000, 0, 2), 0);
        due.is("28: the first day", told(x, 0, 0, 1, 2), 0);
        due.is("28: beyond told", x.found(1), 2);
    }

    private static void checkOfMany() {
        BeltHall x = hall();
        for (int p = 7; p < 20; p++) {
            x.person(0, 0, 0);
            x.give(p, 0, 1, 40, 56);
            x.give(p, 1, 1, 40, 56);
        }
        for (int i = 0; i < 20; i++) {
            x.tell(i);
        }
        due.is("28: the one after the twentieth is missing", x.check(0), 21);
    }

    private static void count() {
        BeltHall x = hall();
        x.exam();
        x.exam();
        x.wait(0);
        x.tell(5);
        x.tell(5);
        x.tell(5);
        x.person(0, 0, 0);
        int[] want = {8, 2, 3, 1, 2, 1, 3};
        for (int what = 0; what < want.length; what++) {
            due.is("29: count(" + what + ")", x.count(what), want[what]);
        }
        due.is("29: beyond", x.count(7), Due.BEYOND);
        due.is("29: beyond", x.count(-1), Due.BEYOND);
        due.is("29: beyond", x.count(Integer.MAX_VALUE), Due.BEYOND);
        due.is("29: beyond told", x.found(1), 3);
    }

    private static void found() {
        BeltHall x = hall();
        due.is("30: beyond", x.found(0), Due.BEYOND);
        due.is("30: beyond", x.found(6), Due.BEYOND);
        due.is("30: beyond", x.found(-1), Due.BEYOND);
        due.is("30: counted, too", x.found(1), 3);
        x.unstrike();
        x.unstrike();
        due.is("30: none", x.found(2), 1);
        x.force(2, 1, 0);
        due.is("30: none", x.found(2), 2);
        x.give(0, 0, 5, 50, 14);
        x.exam();
        x.middle(0);
        due.is("30: state", x.found(3), 2);
        for (int i = 0; i < 22; i++) {
            x.tell(0);
        }
        due.is("30: full", x.found(4), 2);
        x.hard(0);
        x.as(0, 1);
        x.strike(0, 0, 0);
        due.is("30: kind", x.found(5), 3);
        due.is("30: beyond still", x.found(1), 3);
    }
}
