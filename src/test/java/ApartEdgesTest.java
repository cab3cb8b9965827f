/** "All TRIED apart from the DITCH as it stands": what only asks changes nothing, not the next draw, not the image. */
public final class ApartEdgesTest {
    private static final Edge E = new Edge();

    public static void main(String[] args) {
        tried();
        game();
        shut();
        dugAnew();
        years();
        work();
        banks();
        E.finish("ApartEdgesTest", 17, 18, 19, 20, 21, 22, 23, 25, 26, 27, 28, 29, 30, 31, 32, 33, 34, 35, 36, 37, 38,
            39, 40);
    }

    /** The ditch that stands has slips to draw, mud, reeds, load, a shut reach. */
    private static void apart(int promise, String what, Edge.Call call) {
        E.of(promise, "apart from the DITCH as it stands: " + what);
        E.apart(what, Made::dug, call);
    }

    private static void tried() {
        apart(17, "none cleans", x -> x.tried(0, 0, -1));
        apart(17, "all clean", x -> x.tried(1, 63, 3));
        apart(18, "costs", x -> x.costs(0, 1, 3));
        apart(19, "first", x -> x.first(0));
        apart(20, "when", x -> x.when(0, 0));
        apart(20, "when, harm", x -> x.when(0, 1));
    }

    private static void game() {
        for (int k = 0; k < 3; k++) {
            int kind = k;
            apart(21, "has, kind " + kind, x -> x.has(0, 5, kind, 9, 10, 3));
            apart(22, "rests, kind " + kind, x -> x.rests(0, 5, kind, 9, -1));
            apart(22, "rests, the first, kind " + kind, x -> x.rests(1, 5, kind, 9, 0));
            apart(23, "best, kind " + kind, x -> x.best(0, 5, kind, 9));
        }
    }

    private static void shut() {
        apart(25, "where", x -> x.where(0, 20, false));
        apart(25, "open", x -> x.where(0, 20, true));
        apart(26, "off", x -> x.off(0, -1));
        apart(26, "off, the last shut", x -> x.off(0, 5));
    }

    private static void dugAnew() {
        apart(27, "falls", x -> x.falls(20, 1, 3, 0, 0, 50));
        apart(28, "sands of the same", x -> x.sands(0, 0, 0));
        apart(28, "sands of another", x -> x.sands(1, 1, 2));
        apart(29, "sinks", x -> x.sinks(0, 0, 3, 2));
        apart(29, "sinks of another", x -> x.sinks(1, 1, 9, 999));
        apart(30, "raised", x -> x.raised(0, 0, 3));
        apart(30, "raised in another", x -> x.raised(1, 1, 0));
    }

    private static void years() {
        apart(31, "every", x -> x.every(0, 7, 12, 0));
        apart(31, "every, the cost", x -> x.every(1, 7, 5, 1));
        apart(32, "order", x -> x.order(0, false));
        apart(32, "order, down", x -> x.order(0, true));
        apart(33, "turn", x -> x.turn(0));
    }

    private static void work() {
        apart(34, "whose", x -> x.whose(0, 4, 2));
        apart(35, "work", x -> x.work(-1));
        apart(36, "notch", x -> x.notch(4, 2));
        apart(37, "hit", x -> x.hit(9, 2));
        apart(38, "longest", x -> x.longest(1));
    }

    private static void banks() {
        apart(39, "banks", x -> x.banks(0, 3, 20, 3));
        apart(40, "rise", x -> x.rise(0, 3));
    }
}
