/** Promises 10 and 11: the text and the set-ups read from it. */
public final class TextTest {
    private static final Due DUE = new Due("TextTest");

    public static void main(String[] args) {
        feed();
        faults();
        done();
        notedByTexts();
        DUE.end();
    }

    private static void feed() {
        MinorTables x = new MinorTables();
        for (int bad : new int[] {-1, 128, Integer.MAX_VALUE, Integer.MIN_VALUE}) {
            DUE.is("10 feed(" + bad + ")", x.feed(bad), -2);
        }
        DUE.is("10 sign 0", x.feed(0), 1);
        DUE.is("10 sign 127", x.feed(127), 2);
        for (int k = 3; k <= 100; k++) {
            DUE.is("10 more", x.feed('z'), k);
        }
        DUE.is("10 a hundred and first", x.feed('z'), -4);
        DUE.is("10 BAD ahead of FULL", x.feed(128), -2);
        DUE.is("10 count", x.count(3), 100);
        DUE.is("11 sign 0 begins none", x.read(), -10);
        DUE.is("11 empty then", x.count(3), 0);
        DUE.is("10 from 1 again", x.feed('z'), 1);
    }

    private static void fault(String text, int place) {
        MinorTables x = new MinorTables();
        x.set(0, 50);
        x.minor(1, 1);
        DUE.is("11 fault of " + text, Due.read(x, text), -10 - place);
        DUE.is("11 empty behind " + text, x.count(3), 0);
        DUE.is("11 nothing done by " + text, x.of(0, 0), 150);
        DUE.is("11 NOTED behind " + text, x.told(5), 1);
    }

    private static void faults() {
        fault("", 0);
        fault(" ", 0);
        fault(";", 0);
        fault("q", 0);
        fault("N2", 0);
        fault("1", 0);
        fault("n", 1);
        fault("n-2", 1);
        fault("n12", 2);
        fault("n2;", 3);
        fault("n2;;z", 3);
        fault("n2 ;z", 2);
        fault("n2; z", 3);
        fault("a", 1);
        fault("a0", 2);
        fault("a0-", 2);
        fault("a00", 3);
        fault("a00;", 3);
        fault("a00-", 4);
        fault("a00--1", 4);
        fault("a00-;", 4);
        fault("a00123", 5);
        fault("a00-123", 6);
        fault("a001-", 4);
        fault("x0", 2);
        fault("x;", 1);
        fault("x0123", 4);
        fault("y0a", 2);
        fault("d-1", 1);
        fault("d0 1", 2);
        fault("v", 1);
        fault("v0+1", 2);
        fault("z1", 1);
        fault("zz", 1);
        fault("t0", 1);
        fault("f;t;", 4);
        fault("n2;a005;!", 8);
        fault("z;z;z;z;z;z;z;z;z;z;z;z;", 23);
        fault("z;z;z;z;z;z;z;z;z;z;z;z;z", 23);
        fault("z;z;z;z;z;z;z;z;z;z;z;zz", 23);
        String hundred = "a00-99;a00-99;a00-99;a00-99;a00-99;a00-99;a00-99;a00-99;a00-99;a00-99;a00-99;a00-99";
        fault(hundred + ";a00-99;a00-99;a", hundred.length());
    }

    private static void done() {
        MinorTables x = new MinorTables();
        DUE.is("11 twelve", Due.read(x, "z;z;z;z;z;z;z;z;z;z;z;z"), 12);
        DUE.is("11 n", Due.read(x, "n4"), 1);
        DUE.is("11 n", x.told(0), 4);
        DUE.is("11 n refused", Due.read(x, "n0;n1;n5;n9"), 0);
        DUE.is("11 n stays", x.told(0), 4);
        DUE.is("11 a", Due.read(x, "a23-99;a325;a4001;a04-1;a0007;a01-0;a1199"), 5);
        DUE.is("11 a row 2, column 3", x.of(0, 23), 1);
        DUE.is("11 a one digit", x.of(0, 32), 105);
        DUE.is("11 a noughts ahead", x.of(0, 0), 107);
        DUE.is("11 a -0", x.of(0, 1), 100);
        DUE.is("11 a 99", x.of(0, 11), 199);
        DUE.is("11 chips", Due.read(x, "x09;y21;d3005"), -22);
        DUE.is("11 chips", Due.read(x, "x09;y201;d305"), 3);
        int[][] due = {{0, 0, 9}, {1, 2, 1}, {2, 3, 5}};
        for (int chip = 0; chip < 3; chip++) {
            for (int what = 0; what < 3; what++) {
                DUE.is("11 chip " + chip, x.chipOf(chip, what), due[chip][what]);
            }
        }
        DUE.is("11 chips refused", Due.read(x, "x31;y31;d41;x010;y00;d0-1"), 0);
        DUE.is("11 z", Due.read(x, "z;z"), 2);
        DUE.is("11 z", x.told(1), 0);
        DUE.is("11 v", Due.read(x, "v0-9;v39;v109;v2-0;v41;v010;v0-10;v199"), 4);
        int[] vector = {91, 109, 100, 109};
        for (int i = 0; i < 4; i++) {
            DUE.is("11 v " + i, x.of(1, i), vector[i]);
        }
        DUE.is("11 one behind the other", Due.read(x, "a339;n2;a339;a115;f"), 4);
        DUE.is("11 f", x.of(0, 0), 105);
        DUE.is("11 n in a text: vector", x.of(1, 0), 100);
        DUE.is("11 t", Due.read(x, "x05;y05;t"), 3);
        DUE.is("11 t", x.of(0, 0), 126);
        DUE.is("11 t refused", Due.read(x, "x09;t"), 1);
        DUE.is("11 t refused leaves the table", x.of(0, 0), 126);
        DUE.is("11 nine done, the thirteenth chip isn't", Due.read(x, "x01;x01;x01;x01;x01;x01;x01;x01;x01;x01"), 9);
        DUE.is("11 twelve chips", x.told(1), 12);
    }

    private static void noted(String text, int left) {
        MinorTables x = new MinorTables();
        x.chip(2, 0, 9);
        x.minor(1, 1);
        Due.read(x, text);
        DUE.is("11 NOTED behind " + text, x.told(5), left);
    }

    private static void notedByTexts() {
        noted("n3", 0);
        noted("a001", 0);
        noted("t", 0);
        noted("f", 0);
        noted("z;x01;f", 0);
        noted("n1;n5", 1);
        noted("a331;a301", 1);
        noted("d09;d09;t", 1);
        noted("x01;y01;d01;v01;z", 1);
    }
}
