/**
 * All that can be seen of an object, told as one text by some 350 calls: what it answers now, and
 * what comes of it: of the rain, of the image, of a digging with each law, of what is on the tape.
 */
final class Standing {
    private final DitchOpen x;
    private final StringBuilder told = new StringBuilder();

    private Standing(DitchOpen x) {
        this.x = x;
    }

    /** Asks and changes the object: it is used up then. */
    static String of(DitchOpen x) {
        Standing s = new Standing(x);
        s.counts();
        s.texts();
        s.ditch();
        s.goOn();
        s.image();
        s.laws();
        s.tape();
        return s.told.toString();
    }

    private void tell(long answer) {
        told.append(answer).append(' ');
    }

    private void counts() {
        for (int what = 0; what < 8; what++) {
            tell(x.count(what));
        }
        for (int sort = 0; sort < 3; sort++) {
            tell(x.fault(sort));
        }
    }

    private void texts() {
        for (int ditch = 0; ditch < x.count(0); ditch++) {
            int reaches = x.reach(ditch, -1, 0);
            tell(reaches);
            for (int what = 0; what < 5; what++) {
                tell(x.reach(ditch, 0, what));
                tell(x.reach(ditch, reaches - 1, what));
            }
        }
        for (int rain = 0; rain < x.count(2); rain++) {
            int days = x.rain(rain, -1);
            tell(days);
            tell(x.rain(rain, 0));
            tell(x.rain(rain, days - 1));
        }
    }

    /** Up to three reaches: the head, the next and the last. */
    private void ditch() {
        int reaches = x.count(4);
        for (int what = 0; what < 9; what++) {
            tell(x.all(what));
            tell(x.at(0, what));
            tell(x.at(1, what));
            tell(x.at(reaches - 1, what));
        }
        for (int owner = 0; owner < 6; owner++) {
            tell(x.owner(owner, 0));
            tell(x.owner(owner, 1));
        }
        tell(x.longest(0));
    }

    private void goOn() {
        tell(x.off(0, -1));
        tell(x.where(0, 9, false));
        tell(x.run(0));
        ditch();
    }

    private void image() {
        tell(x.back());
        ditch();
        goOn();
    }

    /** By which laws and which seed it was dug, and what each law tells. */
    private void laws() {
        tell(x.sands(0, 0, 0));
        tell(x.sands(0, 0, 1));
        for (int law = 0; law < x.count(1); law++) {
            tell(x.dig(0, law, law, 3) ? 1 : 0);
            tell(x.day(60));
            tell(x.at(0, 5));
            tell(x.at(1, 5));
            tell(x.all(8));
        }
    }

    private void tape() {
        for (int sort = 0; sort < 3; sort++) {
            int text = x.text(sort);
            tell(text);
            if (sort == 0 && text >= 0) {
                int reaches = x.reach(text, -1, 0);
                tell(reaches);
                tell(x.reach(text, reaches - 1, 0));
                tell(x.reach(text, reaches - 1, 1));
            }
        }
        tell(x.count(3));
    }
}
