/** Numbers and texts drawn from a seed, the same each time. */
final class Draws {
    private long x;

    Draws(long seed) {
        x = seed * 2862933555777941757L + 3037000493L;
        below(2);
        below(2);
    }

    int below(int n) {
        x = x * 6364136223846793005L + 1442695040888963407L;
        return (int) ((x >>> 33) % n);
    }

    int from(int least, int most) {
        return least + below(most - least + 1);
    }

    boolean oneIn(int n) {
        return below(n) == 0;
    }

    long whole() {
        return (long) below(1 << 30) << 34 ^ (long) below(1 << 30) << 8 ^ below(1 << 30);
    }

    char of(String signs) {
        return signs.charAt(below(signs.length()));
    }

    private String blank() {
        return oneIn(12) ? " ".repeat(from(1, 2)) : "";
    }

    /** Mostly sinking beds with fields a little above them, so that it flows and floods. */
    String ditch(int reaches, int owners) {
        StringBuilder t = new StringBuilder();
        int bed = from(0, 60);
        for (int i = 0; i < reaches; i++) {
            t.append(i > 0 ? "," : "").append(blank()).append(of("cccsst"));
            if (!oneIn(5) && t.length() < 170) {
                bed = Math.max(0, bed - from(-2, 8));
                t.append(blank()).append('b').append(bed);
            }
            if (!oneIn(4) && t.length() < 170) {
                t.append('o').append(blank()).append(below(owners));
            }
            if (!oneIn(4) && t.length() < 170) {
                t.append('f').append(Math.min(99, bed + from(0, 25)));
            }
            if (!oneIn(3) && t.length() < 170) {
                t.append('w').append(from(1, 9)).append(blank());
            }
        }
        return t.toString();
    }

    private String number() {
        int v = oneIn(3) ? from(0, 9999) : from(0, 12);
        return String.valueOf(v);
    }

    String sum(int within) {
        StringBuilder t = new StringBuilder(atom(within));
        for (int more = below(3); more > 0; more--) {
            t.append(blank()).append(of("++--**//")).append(blank()).append(atom(within));
        }
        return t.toString();
    }

    private String atom(int within) {
        if (within < 6 && oneIn(5)) {
            return "[" + sum(within + 1) + "]";
        }
        return oneIn(3) ? number() : String.valueOf(of("ddhhrwmsqn"));
    }

    private String condition(int within) {
        StringBuilder t = new StringBuilder(unit(within));
        for (int more = oneIn(2) ? below(3) : 0; more > 0; more--) {
            t.append(of("&|")).append(blank()).append(unit(within));
        }
        return t.toString();
    }

    private String unit(int within) {
        if (within < 6 && oneIn(4)) {
            return "!" + blank() + unit(within + 1);
        }
        if (within < 6 && oneIn(4)) {
            return "(" + condition(within + 1) + ")";
        }
        return sum(within) + of("=<>") + blank() + sum(within);
    }

    String law() {
        String[] plain = {"y:h", "y:d*w", "y:h*w/2", "y:9", "y:99", "y:h-r", "y:q>0?h*w;y:d", "y:m>3?2;y:h*2",
            "y:[h*3+d]/2-r/5", "y:s=2?d;y:s=1?h*w;y:7", "y:30", "y:d>5&m<9?60;y:n*20", "y:q"};
        if (oneIn(2)) {
            return plain[below(plain.length)];
        }
        StringBuilder t = new StringBuilder();
        for (int clauses = from(1, 3); clauses > 0; clauses--) {
            t.append(t.length() > 0 ? ";" : "").append("y").append(blank()).append(":");
            t.append(clauses > 1 || oneIn(3) ? condition(0) + "?" : "").append(sum(0));
        }
        return t.length() > 200 ? law() : t.toString();
    }

    String rain(int days) {
        StringBuilder t = new StringBuilder();
        for (int i = 0; i < days; i++) {
            t.append(i > 0 ? "," : "").append(oneIn(3) ? 0 : oneIn(3) ? from(0, 99) : from(0, 30)).append(blank());
        }
        return t.toString();
    }

    /** A text of one of the sorts, right or wrong in a place or two. */
    String text(int sort) {
        StringBuilder t = new StringBuilder(sort == 0 ? ditch(from(1, oneIn(6) ? 21 : 5), 6)
            : sort == 1 ? law() : rain(from(1, oneIn(4) ? 32 : 5)));
        String signs = sort == 0 ? "cstbwof,,0123456789  " : sort == 1 ? "y::;?!!(([[)]&|=<>+-*/dhrwmsqn0123456789  "
            : "0123456789,, ";
        for (int wrong = below(4); wrong > 0; wrong--) {
            int place = below(t.length() + 1);
            char sign = oneIn(20) ? (char) from(1, 255) : of(signs);
            if (oneIn(2) || place == t.length()) {
                t.insert(place, sign);
            } else if (oneIn(2)) {
                t.setCharAt(place, sign);
            } else if (oneIn(2)) {
                t.deleteCharAt(place);
            } else {
                t.setLength(Math.max(1, place));
            }
        }
        return t.length() > 200 ? t.substring(0, 200) : t.toString();
    }
}
