/** Objects in states in which a call that should change nothing could change something. */
final class Made {
    private Made() {
    }

    /** Texts told and one begun on the tape, staffs, tide, silt, summer; nothing dug, no image. */
    static DitchOpen told() {
        DitchOpen x = new DitchOpen();
        Due.text(x, 0, "cb30w2o1f33,tb24w1f26,sb18w3o3,tb12w2,tb6w2o1,tb0w3o2f2");
        Due.text(x, 0, "t,s");
        Due.text(x, 1, "y:h*w/2");
        Due.text(x, 1, "y:40");
        Due.text(x, 1, "y:9");
        Due.text(x, 2, "8,0,20");
        Due.text(x, 2, "0,99");
        x.set(0, 3);
        x.set(1, 2);
        x.set(2, 1);
        x.staff(0, 11);
        x.staff(2, 5);
        Due.feed(x, "c,cb7");
        return x;
    }

    /** As told, and the first ditch, of six reaches, dug; an image of day 3, day 4 as it stands. */
    static DitchOpen dug() {
        DitchOpen x = told();
        x.dig(0, 0, 1, 77L);
        x.day(30);
        x.clean(1);
        x.day(12);
        x.shut(1, true);
        x.day(9);
        x.image();
        x.shut(1, false);
        x.day(45);
        x.clean(2);
        x.shut(0, true);
        return x;
    }

    /** Nothing flows; each reach has mud 9 and water 1; silt is 0 then. */
    static DitchOpen still(String ditch, String... rains) {
        DitchOpen x = Due.dug(ditch, "y:0", null, rains);
        x.set(1, 9);
        x.day(1);
        x.set(1, 0);
        return x;
    }

    /**
     * The head (of owner 0) is clean, with water 1 and its field at 3; behind it is mud 9 of owner 1.
     * By a rain of 4 (0) the head is wet unless owner 1 cleans; by a dry day (1) never.
     */
    static DitchOpen dammed() {
        DitchOpen x = heldBack("cb0w1f3,cb0w1o1f99", 1, 1, "4", "0");
        x.clean(0);
        return x;
    }

    /** All shut while it rains so much on so many days with a silt of 9, then all open; silt is 0 then. */
    static DitchOpen heldBack(String ditch, int days, int rain, String... rains) {
        DitchOpen x = Due.dug(ditch, "y:99", null, rains);
        x.set(1, 9);
        shutAll(x, true);
        for (int day = 0; day < days; day++) {
            x.day(rain);
        }
        shutAll(x, false);
        x.set(1, 0);
        return x;
    }

    private static void shutAll(DitchOpen x, boolean is) {
        for (int reach = 0; reach < x.count(4); reach++) {
            x.shut(reach, is);
        }
    }

    /** The same with an image, a staff and a text on the tape, so that a change of them would be seen. */
    static DitchOpen kept(DitchOpen x) {
        x.image();
        x.staff(0, 7);
        Due.feed(x, "c,cb7");
        return x;
    }
}
