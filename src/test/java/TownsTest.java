/** Promises 1 to 8: the new object, towns as texts, deeds, what is so. */
public final class TownsTest {
    /** A DEED of each KIND, PAYS 9, FIGURE 7; its number is its KIND's. */
    static final String ALL_KINDS = "d0 a9 7;d1 a9 7;d2 a9 7;d3 a9 7;d4 a9 7;d5 a9 7;d6 a9 7;d7 a9 7;";

    public static void main(String[] args) {
        newObject();
        statements();
        faultsOfSigns();
        faultsOfMeaning();
        townRefusals();
        deeds();
        settings();
        mays();
        Due.end();
    }

    private static void newObject() {
        BackwardYears x = new BackwardYears();
        Due.is(1, "count(0)", x.count(0), 0);
        Due.is(1, "marks()", x.marks(), 0);
        Due.is(1, "state(0)", x.state(0), 100);
        Due.is(1, "state(1)", x.state(1), 0);
        Due.is(1, "state(2)", x.state(2), 0);
        Due.is(1, "state(3)", x.state(3), 10);
        Due.is(1, "rise()", x.rise(), 0);
        Due.is(1, "deed(0, 0)", x.deed(0, 0), -1);
        Due.is(1, "care(0)", x.care(0), -11);
        Due.is(1, "restore()", x.restore(), -3);
    }

    private static void statements() {
        BackwardYears x = new BackwardYears();
        Due.is(2, "m, c, n, l", Due.read(x, "mc;mj;c9999;n99 -9;l2;"), 5);
        Due.is(2, "marks()", x.marks(), 516);
        Due.is(4, "marks()", x.marks(), 516);
        Due.is(2, "state(0)", x.state(0), 9999);
        Due.is(2, "state(2)", x.state(2), 2);
        Due.is(2, "state(3)", x.state(3), 99);
        Due.is(2, "rise()", x.rise(), -9);
        Due.is(6, "rise()", x.rise(), -9);
        Due.is(2, "c0", Due.read(x, "c0;n0 +9;"), 2);
        Due.is(2, "state(0)", x.state(0), 0);
        Due.is(2, "state(3)", x.state(3), 0);
        Due.is(6, "rise()", x.rise(), 9);
        Due.is(2, "n1 -0", Due.read(x, "n1 -0;"), 1);
        Due.is(6, "rise()", x.rise(), 0);
        Due.is(2, "l0", Due.read(x, "l0;"), 1);
        Due.is(5, "state(2)", x.state(2), 0);
        Due.is(2, "a later one counts", Due.read(x, "c1;c23;c456;"), 3);
        Due.is(5, "state(0)", x.state(0), 456);
        Due.is(2, "needs of all marks", Due.read(x, "d0abcdefghij j99 0;"), 1);
        Due.is(3, "deed(0, 1)", x.deed(0, 1), 1023);
        Due.is(3, "deed(0, 2)", x.deed(0, 2), 9);
        Due.is(3, "deed(0, 3)", x.deed(0, 3), 99);
        Due.is(2, "seven more deeds", Due.read(x, "d0 a0 0;d0 a0 0;d0 a0 0;d0 a0 0;d0 a0 0;d0 a0 0;d0 a0 0;"), 7);
        Due.is(2, "count(0)", x.count(0), 8);
        Due.is(2, "marks stay", x.marks(), 516);
        Due.is(2, "the text stays", x.element(0, 0), 'd');
    }

    private static void fault(String text, int due) {
        Due.is(2, "town of " + text, Due.read(new BackwardYears(), text), due);
    }

    private static void faultsOfSigns() {
        fault("", -1000);
        fault(";", -1000);
        fault("l1;;", -1003);
        fault("l1; ", -1003);
        fault("d", -1001);
        fault("da", -1001);
        fault("d0a", -1003);
        fault("d0aa a1 1;", -1003);
        fault("d0ba a1 1;", -1003);
        fault("d0jj", -1003);
        fault("d0k", -1002);
        fault("d0  ", -1003);
        fault("d0 ab", -1004);
        fault("d0 a12", -1006);
        fault("d0 a123", -1006);
        fault("d0 a00", -1005);
        fault("d0 a1 ;", -1006);
        fault("d0 a1 12", -1007);
        fault("d0 a1 1", -1007);
        fault("m;", -1001);
        fault("mab", -1002);
        fault("c;", -1001);
        fault("c01", -1002);
        fault("c12345;", -1005);
        fault("c1234", -1005);
        fault("n;", -1001);
        fault("n00", -1002);
        fault("n123", -1003);
        fault("n1+", -1002);
        fault("n1 5;", -1003);
        fault("n1 +", -1004);
        fault("n1 -;", -1004);
        fault("n1 -10;", -1005);
        fault("l;", -1001);
        fault("l12;", -1002);
        fault("D", -1000);
        fault("l3;d9 a1 1;x", -1011);
        fault("\u00ff", -1000);
    }

    private static void faultsOfMeaning() {
        fault("l2;l3;", -2003);
        fault("l9;", -2000);
        fault("d8 a1 1;", -2000);
        fault("d9 a1 1;d8 a1 1;", -2000);
        fault("mb;ma;mb;", -2006);
        fault(TownsTest.ALL_KINDS + "d0 a0 0;", -2064);
        BackwardYears x = Due.town("ma;" + "d0 a0 0;");
        Due.is(2, "a mark that was so before", Due.read(x, "mb;c5;d0 a0 0;n1 +1;l1;ma;"), -2023);
        Due.is(2, "then nothing comes: marks", x.marks(), 1);
        Due.is(2, "coins", x.state(0), 100);
        Due.is(2, "deeds", x.count(0), 1);
        Due.is(2, "nail", x.state(3), 10);
        Due.is(2, "rise", x.rise(), 0);
        Due.is(2, "law", x.state(2), 0);
        Due.is(2, "nothing comes with a wrong sign", Due.read(x, "mb;c5;!"), -1006);
        Due.is(2, "marks", x.marks(), 1);
    }

    private static void townRefusals() {
        BackwardYears x = Due.town("d0 a0 0;");
        Due.is(2, "town(-1)", x.town(-1), -1);
        Due.is(2, "town(8)", x.town(8), -1);
        Due.is(2, "town(1)", x.town(1), -11);
        x.keep(1, 1, 0);
        Due.is(2, "town(1) of a deed", x.town(1), -12);
        Due.row(x, 1, Due.SHORTS, 'l', '1', ';');
        Due.is(2, "town(1) of shorts", x.town(1), -12);
    }

    private static void deedIs(BackwardYears x, int deed, int... due) {
        for (int what = 0; what < 8; what++) {
            Due.is(3, "deed(" + deed + ", " + what + ")", x.deed(deed, what), due[what]);
        }
        Due.is(3, "deed(" + deed + ", 8)", x.deed(deed, 8), -1);
        Due.is(3, "deed(" + deed + ", -1)", x.deed(deed, -1), -1);
    }

    private static void deeds() {
        BackwardYears x = Due.town("d0 a9 6;d1a b9 7;d2ab c9 5;d3ac d9 8;d4ad e9 5;d5 f9 9;d6bj g9 3;d7h j9 4;");
        deedIs(x, 0, 0, 0, 0, 9, 6, 9, 9, 0);
        deedIs(x, 1, 1, 1, 1, 9, 7, 16, 8, 0);
        deedIs(x, 2, 2, 3, 2, 9, 5, 9, 0, 0);
        deedIs(x, 3, 3, 5, 3, 9, 8, 4, 8, 0);
        deedIs(x, 4, 4, 9, 4, 9, 5, 0, 0, 1);
        deedIs(x, 5, 5, 0, 5, 9, 9, 23, 11, 1);
        deedIs(x, 6, 6, 514, 6, 9, 3, 9, 9, 0);
        deedIs(x, 7, 7, 128, 9, 9, 4, 0, 0, 0);
        Due.is(3, "deed(8, 0)", x.deed(8, 0), -1);
        Due.is(3, "deed(-1, 0)", x.deed(-1, 0), -1);
        x = Due.town("d4 a0 4;d5 a0 8;d7 a0 5;d0 a0 9;d1 a0 9;d2 a0 9;d3 a0 9;d6 a0 9;");
        int[] keeps = {0, 0, 1, 0, 0, 0, 0, 0};
        for (int i = 0; i < 8; i++) {
            Due.is(3, "deed(" + i + ", 7)", x.deed(i, 7), keeps[i]);
        }
    }

    private static void settings() {
        BackwardYears x = new BackwardYears();
        Due.is(7, "set(0, 2)", x.set(0, 2), 0);
        Due.is(7, "set(0, 1)", x.set(0, 1), 2);
        Due.is(7, "set(0, 0)", x.set(0, 0), 1);
        Due.is(5, "state(2)", x.state(2), 0);
        Due.is(7, "set(0, 1)", x.set(0, 1), 0);
        Due.is(7, "set(0, 3)", x.set(0, 3), -1);
        Due.is(7, "set(0, -1)", x.set(0, -1), -1);
        Due.is(5, "state(2)", x.state(2), 1);
        Due.is(7, "set(1, 99)", x.set(1, 99), 10);
        Due.is(7, "set(1, 0)", x.set(1, 0), 99);
        Due.is(7, "set(1, 100)", x.set(1, 100), -1);
        Due.is(7, "set(1, -1)", x.set(1, -1), -1);
        Due.is(5, "state(3)", x.state(3), 0);
        Due.is(7, "set(2, 9999)", x.set(2, 9999), 100);
        Due.is(7, "set(2, 0)", x.set(2, 0), 9999);
        Due.is(7, "set(2, 10000)", x.set(2, 10000), -1);
        Due.is(7, "set(2, -1)", x.set(2, -1), -1);
        Due.is(5, "state(0)", x.state(0), 0);
        Due.is(7, "set(3, 0)", x.set(3, 0), -1);
        Due.is(7, "set(-1, 0)", x.set(-1, 0), -1);
        Due.is(5, "state(4)", x.state(4), -1);
        Due.is(5, "state(-1)", x.state(-1), -1);
        Due.list(x, 1);
        x.pair(1, 0);
        Due.is(5, "state(1)", x.state(1), 2);
    }

    private static void mays() {
        BackwardYears x = Due.town("d0ab c20 0;d0 c20 0;d4ab c99 0;d1 c15 6;mb;c20;");
        Due.is(8, "may(0)", x.may(0), 0);
        Due.is(8, "may(1)", x.may(1), 1);
        Due.is(8, "may(2)", x.may(2), 0);
        Due.is(8, "may(3)", x.may(3), 0);
        Due.read(x, "ma;");
        Due.is(8, "may(0)", x.may(0), 1);
        x.set(2, 19);
        Due.is(8, "may(0)", x.may(0), 0);
        Due.is(8, "may(2)", x.may(2), 1);
        Due.is(8, "may(4)", x.may(4), -1);
        Due.is(8, "may(-1)", x.may(-1), -1);
        Due.is(8, "asking changes nothing", x.state(0), 19);
    }
}
