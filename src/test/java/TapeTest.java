/** Promises 1 to 3, and what count() tells of the tape. */
public final class TapeTest {
    private TapeTest() {
    }

    public static void main(String[] args) {
        newObject();
        feeding();
        ending();
        Check.close();
    }

    private static void newObject() {
        HiddenOrLost x = new HiddenOrLost();
        Check.same("new: bytes", x.count(6), 0);
        Check.same("new: persons", x.count(0), 0);
        Check.same("new: finds", x.count(1), 0);
        Check.same("new: fears", x.count(2), 0);
        Check.same("new: wide", x.count(3), 4);
        Check.same("new: high", x.count(4), 4);
        Check.same("new: risk", x.count(5), 3);
        Check.same("new: fault", x.fault(), 0);
        Check.same("new: cell (3, 3)", x.cell(3, 3, 0), 0);
        Check.same("new: routeAt", x.routeAt(0), -1);
        Check.same("new: early", x.early(), -1);
        Check.same("new: parted", x.parted(), -1);
        Check.same("new: byteAt", x.byteAt(0), -1);
        Check.same("new: told", x.told(1), -1);
        Check.same("new: said", x.said(-1), -1);
        Check.same("new: undo", x.undo(), -1);
        Check.same("new: restore", x.restore(0), false);
        Check.same("new: fears that fit", x.fears(), 0);
        Check.same("new: an empty tape is a field", x.field(), 0);
        Check.same("new: an empty tape is a book", x.book(1), -1);
        Check.same("new: of no lines", x.told(1), 0);
        Check.same("new: an empty tape is no sentence", x.sentence(), -1);
        Check.same("new: its fault", x.fault(), 1);
    }

    private static void feeding() {
        HiddenOrLost x = new HiddenOrLost();
        for (int i = 1; i <= 47; i++) {
            Check.same("feed " + i, x.feed(0, -1, i, Integer.MIN_VALUE, 7), 20 * i);
        }
        Check.same("feed beyond 940", x.feed(1, 2, 3, 4, 5), -1);
        Check.same("none came", x.count(6), 940);
        Check.same("end 921", x.end(921), true);
        Check.same("feed behind 921", x.feed(1, 2, 3, 4, 5), -1);
        Check.same("end 920", x.end(920), true);
        Check.same("feed behind 920", x.feed(1, 2, 3, 4, 5), 940);
        HiddenOrLost y = new HiddenOrLost();
        y.feed(0x70657273, 0x6f6e2061, 0x3b202020, 0x20202020, 0x20202020);
        Check.same("the highest byte comes first", y.field(), 1);
        Check.same("so there is a person", y.count(0), 1);
    }

    private static void ending() {
        HiddenOrLost x = new HiddenOrLost();
        Check.same("end 0 of nothing", x.end(0), true);
        Check.same("end 1 of nothing", x.end(1), false);
        x.feed(1, 2, 3, 4, 5);
        Check.same("end -1", x.end(-1), false);
        Check.same("end 21", x.end(21), false);
        Check.same("bytes stay", x.count(6), 20);
        Check.same("end 20", x.end(20), true);
        Check.same("end 7", x.end(7), true);
        Check.same("bytes", x.count(6), 7);
        Check.same("end 8", x.end(8), false);
        Check.same("end of the least number", x.end(Integer.MIN_VALUE), false);
        Check.same("what is cut off is gone", x.feed(0, 0, 0, 0, 0), 27);
    }
}
